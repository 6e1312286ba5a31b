-- CellTreeModel.above(IZIIII)V
def b157_112 (F : Nat) (l0 : Option Nat) (l1 : Int32) : xm Unit := mb (nn l0) fun v1 => mb (vc 9 v1) fun _ => mb (m160 F v1 l1 (3 : Int32) (3 : Int32)) fun _ => mr ()
theorem t157_112 {sc : Nat × (Nat → Int32)} {F : Nat} {r : Unit} {h' : xv_H} {l0 : Option Nat} {l1 : Int32} {d2 d3 d4 d5 d6 d7 d8 : Option Value} {h : xv_H} (e : b157_112 F l0 l1 h = some (r, h')) : xx sc 157 112 [some (va_rf l0), some (.int l1), d2, d3, d4, d5, d6, d7, d8] [] h (fun v g => v = none ∧ g = h') := by
  unfold b157_112 at e
  refine xo_aload_nQ (w := l0) rfl rfl ?_
  refine xo_iload_n rfl rfl ?_
  refine xo_iconstV (x := 3) rfl (by decide) ?_
  refine xo_iconstV (x := 3) rfl (by decide) ?_
  refine d_nn e (fun v1 g e1 => ?_)
  subst g
  replace e := e1
  clear e1
  refine d_virtual_v (av := [.int l1, .int (3 : Int32), .int (3 : Int32)]) (rest := []) rfl ⟨by decide, by decide⟩ rfl rfl (by simp [xv_fit, va_rf_cat, cat_int, cat_long, cat_ref, cat_null, show xt_mx 160 = 4 from rfl, show xt_lg 160 = [] from rfl]) (by simp [xv_room, va_rf_cat, cat_int, cat_long, cat_ref, cat_null]) (fun x0 h1 e1 => t160 e1) e (fun _ h e => ?_)
  exact d_ret rfl e
def b157_50 (F : Nat) (l0 : Option Nat) (l1 : Int32) (l3 : Int32) (l4 : Int32) (l5 : Int32) : xm Unit := mb (nn l0) fun v1 => mb (gr 937 v1) fun v2 => mb (gr 938 v1) fun v3 => mb (nn v3) fun v4 => mb (li v4 l1) fun v5 => mb (nn v2) fun v6 => mb (li v6 ((((24 : Int32) * l1) + v5) - (2 : Int32))) fun v7 => mb (gr 922 v1) fun v8 => mb (nn v8) fun v9 => mb (li v9 (((24 : Int32) * l1) + v7)) fun v10 => mb (gr 923 v1) fun v11 => mb (nn v11) fun v12 => mb (ll v12 (((24 : Int32) * l1) + v7)) fun v13 => mb (m158 F v13 l3 l4 l5) fun v14 => mb (vc 9 v1) fun _ => mb (m156 F v1 (3 : Int32) v7 v10 v14 (0 : Int32) (0 : Int32) (0 : Int32)) fun _ => b157_112 F (some v1) l1
theorem t157_50 {sc : Nat × (Nat → Int32)} {F : Nat} {r : Unit} {h' : xv_H} {l0 : Option Nat} {l1 : Int32} {l3 : Int32} {l4 : Int32} {l5 : Int32} {d2 d6 d7 d8 : Option Value} {h : xv_H} (e : b157_50 F l0 l1 l3 l4 l5 h = some (r, h')) : xx sc 157 50 [some (va_rf l0), some (.int l1), d2, some (.int l3), some (.int l4), some (.int l5), d6, d7, d8] [] h (fun v g => v = none ∧ g = h') := by
  unfold b157_50 at e
  refine xo_aload_nQ (w := l0) rfl rfl ?_
  refine d_nn e (fun v1 g e1 => ?_)
  subst g
  replace e := e1
  clear e1
  refine d_getr rfl e (fun v2 e => ?_)
  refine xo_bipushV (x := 24) rfl (by decide) ?_
  refine xo_iload_n rfl rfl ?_
  refine xo_imul rfl ?_
  refine xo_aload_nQ (w := (some v1)) rfl rfl ?_
  refine d_getr rfl e (fun v3 e => ?_)
  refine xo_iload_n rfl rfl ?_
  refine d_nn e (fun v4 g e1 => ?_)
  subst g
  replace e := e1
  clear e1
  refine d_iald rfl e (fun v5 e => ?_)
  refine xo_iadd rfl ?_
  refine xo_iconstV (x := 2) rfl (by decide) ?_
  refine xo_isub rfl ?_
  refine d_nn e (fun v6 g e1 => ?_)
  subst g
  replace e := e1
  clear e1
  refine d_iald rfl e (fun v7 e => ?_)
  refine xo_istore rfl (Nat.le_of_ble_eq_true rfl) rfl ?_
  refine xo_aload_nQ (w := (some v1)) rfl rfl ?_
  refine xo_iconstV (x := 3) rfl (by decide) ?_
  refine xo_iload rfl rfl ?_
  refine xo_aload_nQ (w := (some v1)) rfl rfl ?_
  refine d_getr rfl e (fun v8 e => ?_)
  refine xo_bipushV (x := 24) rfl (by decide) ?_
  refine xo_iload_n rfl rfl ?_
  refine xo_imul rfl ?_
  refine xo_iload rfl rfl ?_
  refine xo_iadd rfl ?_
  refine d_nn e (fun v9 g e1 => ?_)
  subst g
  replace e := e1
  clear e1
  refine d_iald rfl e (fun v10 e => ?_)
  refine xo_aload_nQ (w := (some v1)) rfl rfl ?_
  refine d_getr rfl e (fun v11 e => ?_)
  refine xo_bipushV (x := 24) rfl (by decide) ?_
  refine xo_iload_n rfl rfl ?_
  refine xo_imul rfl ?_
  refine xo_iload rfl rfl ?_
  refine xo_iadd rfl ?_
  refine d_nn e (fun v12 g e1 => ?_)
  subst g
  replace e := e1
  clear e1
  refine d_lald rfl e (fun v13 e => ?_)
  refine xo_iload_n rfl rfl ?_
  refine xo_iload rfl rfl ?_
  refine xo_iload rfl rfl ?_
  refine d_static_l (av := [.long v13, .int l3, .int l4, .int l5]) (rest := [.int v10, .int v7, .int (3 : Int32), va_rf (some v1)]) rfl ⟨by decide, by decide, by decide⟩ rfl rfl (by simp [xv_fit, va_rf_cat, cat_int, cat_long, cat_ref, cat_null, show xt_mx 158 = 10 from rfl, show xt_lg 158 = [0, 6] from rfl]) (by simp [xv_room, va_rf_cat, cat_int, cat_long, cat_ref, cat_null]) (fun x0 h1 e1 => t158 e1) e (fun v14 h e => ?_)
  refine xo_iconstV (x := 0) rfl (by decide) ?_
  refine xo_iconstV (x := 0) rfl (by decide) ?_
  refine xo_iconstV (x := 0) rfl (by decide) ?_
  refine d_virtual_v (av := [.int (3 : Int32), .int v7, .int v10, .long v14, .int (0 : Int32), .int (0 : Int32), .int (0 : Int32)]) (rest := []) rfl ⟨by decide, by decide⟩ rfl rfl (by simp [xv_fit, va_rf_cat, cat_int, cat_long, cat_ref, cat_null, show xt_mx 156 = 9 from rfl, show xt_lg 156 = [4] from rfl]) (by simp [xv_room, va_rf_cat, cat_int, cat_long, cat_ref, cat_null]) (fun x0 h1 e1 => t156 e1) e (fun _ h e => ?_)
  exact t157_112 e
def b157_4 (F : Nat) (l0 : Option Nat) (l1 : Int32) (l3 : Int32) (l4 : Int32) (l5 : Int32) (l6 : Int32) : xm Unit := mb (m124 F (2 : Int32) (0 : Int32) (100 : Int32)) fun v1 => mb (m150 F v1 (0 : Int32) l3) fun v2 => mb (m151 F v2 (1 : Int32)) fun v3 => mb (m153 F v3 (0 : Int32) l4) fun v4 => mb (m153 F v4 (1 : Int32) l5) fun v5 => mb (nn l0) fun v6 => mb (vc 9 v6) fun _ => mb (m156 F v6 (3 : Int32) (0 : Int32) l6 v5 (0 : Int32) (0 : Int32) (0 : Int32)) fun _ => b157_112 F (some v6) l1
theorem t157_4 {sc : Nat × (Nat → Int32)} {F : Nat} {r : Unit} {h' : xv_H} {l0 : Option Nat} {l1 : Int32} {l3 : Int32} {l4 : Int32} {l5 : Int32} {l6 : Int32} {d2 d7 d8 : Option Value} {h : xv_H} (e : b157_4 F l0 l1 l3 l4 l5 l6 h = some (r, h')) : xx sc 157 4 [some (va_rf l0), some (.int l1), d2, some (.int l3), some (.int l4), some (.int l5), some (.int l6), d7, d8] [] h (fun v g => v = none ∧ g = h') := by
  unfold b157_4 at e
  refine xo_iconstV (x := 2) rfl (by decide) ?_
  refine xo_iconstV (x := 0) rfl (by decide) ?_
  refine xo_bipushV (x := 100) rfl (by decide) ?_
  refine d_static_l (av := [.int (2 : Int32), .int (0 : Int32), .int (100 : Int32)]) (rest := []) rfl ⟨by decide, by decide, by decide⟩ rfl rfl (by simp [xv_fit, va_rf_cat, cat_int, cat_long, cat_ref, cat_null, show xt_mx 124 = 3 from rfl, show xt_lg 124 = [] from rfl]) (by simp [xv_room, va_rf_cat, cat_int, cat_long, cat_ref, cat_null]) (fun x0 h1 e1 => t124 e1) e (fun v1 h e => ?_)
  refine xo_iconstV (x := 0) rfl (by decide) ?_
  refine xo_iload_n rfl rfl ?_
  refine d_static_l (av := [.long v1, .int (0 : Int32), .int l3]) (rest := []) rfl ⟨by decide, by decide, by decide⟩ rfl rfl (by simp [xv_fit, va_rf_cat, cat_int, cat_long, cat_ref, cat_null, show xt_mx 150 = 4 from rfl, show xt_lg 150 = [0] from rfl]) (by simp [xv_room, va_rf_cat, cat_int, cat_long, cat_ref, cat_null]) (fun x0 h1 e1 => t150 e1) e (fun v2 h e => ?_)
  refine xo_iconstV (x := 1) rfl (by decide) ?_
  refine d_static_l (av := [.long v2, .int (1 : Int32)]) (rest := []) rfl ⟨by decide, by decide, by decide⟩ rfl rfl (by simp [xv_fit, va_rf_cat, cat_int, cat_long, cat_ref, cat_null, show xt_mx 151 = 3 from rfl, show xt_lg 151 = [0] from rfl]) (by simp [xv_room, va_rf_cat, cat_int, cat_long, cat_ref, cat_null]) (fun x0 h1 e1 => t151 e1) e (fun v3 h e => ?_)
  refine xo_lstore rfl (Nat.le_of_ble_eq_true rfl) rfl rfl ?_
  refine xo_aload_nQ (w := l0) rfl rfl ?_
  refine xo_iconstV (x := 3) rfl (by decide) ?_
  refine xo_iconstV (x := 0) rfl (by decide) ?_
  refine xo_iload rfl rfl ?_
  refine xo_lload rfl rfl ?_
  refine xo_iconstV (x := 0) rfl (by decide) ?_
  refine xo_iload rfl rfl ?_
  refine d_static_l (av := [.long v3, .int (0 : Int32), .int l4]) (rest := [.int l6, .int (0 : Int32), .int (3 : Int32), va_rf l0]) rfl ⟨by decide, by decide, by decide⟩ rfl rfl (by simp [xv_fit, va_rf_cat, cat_int, cat_long, cat_ref, cat_null, show xt_mx 153 = 4 from rfl, show xt_lg 153 = [0] from rfl]) (by simp [xv_room, va_rf_cat, cat_int, cat_long, cat_ref, cat_null]) (fun x0 h1 e1 => t153 e1) e (fun v4 h e => ?_)
  refine xo_iconstV (x := 1) rfl (by decide) ?_
  refine xo_iload rfl rfl ?_
  refine d_static_l (av := [.long v4, .int (1 : Int32), .int l5]) (rest := [.int l6, .int (0 : Int32), .int (3 : Int32), va_rf l0]) rfl ⟨by decide, by decide, by decide⟩ rfl rfl (by simp [xv_fit, va_rf_cat, cat_int, cat_long, cat_ref, cat_null, show xt_mx 153 = 4 from rfl, show xt_lg 153 = [0] from rfl]) (by simp [xv_room, va_rf_cat, cat_int, cat_long, cat_ref, cat_null]) (fun x0 h1 e1 => t153 e1) e (fun v5 h e => ?_)
  refine xo_iconstV (x := 0) rfl (by decide) ?_
  refine xo_iconstV (x := 0) rfl (by decide) ?_
  refine xo_iconstV (x := 0) rfl (by decide) ?_
  refine d_nn e (fun v6 g e1 => ?_)
  subst g
  replace e := e1
  clear e1
  refine d_virtual_v (av := [.int (3 : Int32), .int (0 : Int32), .int l6, .long v5, .int (0 : Int32), .int (0 : Int32), .int (0 : Int32)]) (rest := []) rfl ⟨by decide, by decide⟩ rfl rfl (by simp [xv_fit, va_rf_cat, cat_int, cat_long, cat_ref, cat_null, show xt_mx 156 = 9 from rfl, show xt_lg 156 = [4] from rfl]) (by simp [xv_room, va_rf_cat, cat_int, cat_long, cat_ref, cat_null]) (fun x0 h1 e1 => t156 e1) e (fun _ h e => ?_)
  refine xo_goto rfl rfl ?_
  exact t157_112 e
def b157_0 (F : Nat) (l0 : Option Nat) (l1 : Int32) (l2 : Int32) (l3 : Int32) (l4 : Int32) (l5 : Int32) (l6 : Int32) : xm Unit := if l2 = 0 then b157_50 F l0 l1 l3 l4 l5 else b157_4 F l0 l1 l3 l4 l5 l6
theorem t157_0 {sc : Nat × (Nat → Int32)} {F : Nat} {r : Unit} {h' : xv_H} {l0 : Option Nat} {l1 : Int32} {l2 : Int32} {l3 : Int32} {l4 : Int32} {l5 : Int32} {l6 : Int32} {d7 d8 : Option Value} {h : xv_H} (e : b157_0 F l0 l1 l2 l3 l4 l5 l6 h = some (r, h')) : xx sc 157 0 [some (va_rf l0), some (.int l1), some (.int l2), some (.int l3), some (.int l4), some (.int l5), some (.int l6), d7, d8] [] h (fun v g => v = none ∧ g = h') := by
  unfold b157_0 at e
  refine xo_iload_n rfl rfl ?_
  refine d_if_eq rfl rfl e (fun _ e => ?_) (fun _ e => ?_)
  · exact t157_50 e
  · exact t157_4 e
def m157 (F : Nat) (this : Nat) (p0 : Int32) (p1 : Int32) (p2 : Int32) (p3 : Int32) (p4 : Int32) (p5 : Int32) : xm Unit := b157_0 F (some this) p0 p1 p2 p3 p4 p5
theorem t157 {sc : Nat × (Nat → Int32)} {F : Nat} {this : Nat} {p0 : Int32} {p1 : Int32} {p2 : Int32} {p3 : Int32} {p4 : Int32} {p5 : Int32} {h : xv_H} {r : Unit} {h' : xv_H} (e : m157 F this p0 p1 p2 p3 p4 p5 h = some (r, h')) : xr sc 157 [.ref this, .int p0, .int p1, .int p2, .int p3, .int p4, .int p5] h (fun v g => v = none ∧ g = h') := by
  have e0 : xv_ent (xt_mx 157) [.ref this, .int p0, .int p1, .int p2, .int p3, .int p4, .int p5] = [some (va_rf (some this)), some (.int p0), some (.int p1), some (.int p2), some (.int p3), some (.int p4), some (.int p5), none, none] := by simp [xv_ent, xv_sl, va_rf_cat, cat_int, cat_long, cat_ref, cat_null, va_rf_some, show xt_mx 157 = 9 from rfl]
  unfold xr
  rw [e0]
  exact t157_0 e
-- CellTreeModel.splitInner(IJI)V
def b147_154 (F : Nat) (s0 : Int32) (s1 : Option Nat) (l0 : Option Nat) (l1 : Int32) (l4 : Int32) (l5 : Int32) (l6 : Int64) (l8 : Int64) (l10 : Int32) (l11 : Int32) (l12 : Int32) : xm Unit := mb (nn s1) fun v1 => mb (vc 9 v1) fun _ => mb (m156 F v1 s0 l11 l4 l6 (0 : Int32) (0 : Int32) (0 : Int32)) fun _ => mb (nn l0) fun v2 => mb (vc 9 v2) fun _ => mb (m156 F v2 (4 : Int32) l12 (0 : Int32) l8 (0 : Int32) (0 : Int32) (0 : Int32)) fun _ => mb (vc 9 v2) fun _ => mb (m157 F v2 l1 l10 l5 l11 l12 l4) fun _ => mr ()
theorem t147_154 {sc : Nat × (Nat → Int32)} {F : Nat} {r : Unit} {h' : xv_H} {s0 : Int32} {s1 : Option Nat} {l0 : Option Nat} {l1 : Int32} {l4 : Int32} {l5 : Int32} {l6 : Int64} {l8 : Int64} {l10 : Int32} {l11 : Int32} {l12 : Int32} {d2 d3 d7 d9 : Option Value} {h : xv_H} (e : b147_154 F s0 s1 l0 l1 l4 l5 l6 l8 l10 l11 l12 h = some (r, h')) : xx sc 147 154 [some (va_rf l0), some (.int l1), d2, d3, some (.int l4), some (.int l5), some (.long l6), d7, some (.long l8), d9, some (.int l10), some (.int l11), some (.int l12)] [.int s0, va_rf s1] h (fun v g => v = none ∧ g = h') := by
  unfold b147_154 at e
  refine xo_iload rfl rfl ?_
  refine xo_iload rfl rfl ?_
  refine xo_lload rfl rfl ?_
  refine xo_iconstV (x := 0) rfl (by decide) ?_
  refine xo_iconstV (x := 0) rfl (by decide) ?_
  refine xo_iconstV (x := 0) rfl (by decide) ?_
  refine d_nn e (fun v1 g e1 => ?_)
  subst g
  replace e := e1
  clear e1
  refine d_virtual_v (av := [.int s0, .int l11, .int l4, .long l6, .int (0 : Int32), .int (0 : Int32), .int (0 : Int32)]) (rest := []) rfl ⟨by decide, by decide⟩ rfl rfl (by simp [xv_fit, va_rf_cat, cat_int, cat_long, cat_ref, cat_null, show xt_mx 156 = 9 from rfl, show xt_lg 156 = [4] from rfl]) (by simp [xv_room, va_rf_cat, cat_int, cat_long, cat_ref, cat_null]) (fun x0 h1 e1 => t156 e1) e (fun _ h e => ?_)
  refine xo_aload_nQ (w := l0) rfl rfl ?_
  refine xo_iconstV (x := 4) rfl (by decide) ?_
  refine xo_iload rfl rfl ?_
  refine xo_iconstV (x := 0) rfl (by decide) ?_
  refine xo_lload rfl rfl ?_
  refine xo_iconstV (x := 0) rfl (by decide) ?_
  refine xo_iconstV (x := 0) rfl (by decide) ?_
  refine xo_iconstV (x := 0) rfl (by decide) ?_
  refine d_nn e (fun v2 g e1 => ?_)
  subst g
  replace e := e1
  clear e1
  refine d_virtual_v (av := [.int (4 : Int32), .int l12, .int (0 : Int32), .long l8, .int (0 : Int32), .int (0 : Int32), .int (0 : Int32)]) (rest := []) rfl ⟨by decide, by decide⟩ rfl rfl (by simp [xv_fit, va_rf_cat, cat_int, cat_long, cat_ref, cat_null, show xt_mx 156 = 9 from rfl, show xt_lg 156 = [4] from rfl]) (by simp [xv_room, va_rf_cat, cat_int, cat_long, cat_ref, cat_null]) (fun x0 h1 e1 => t156 e1) e (fun _ h e => ?_)
  refine xo_aload_nQ (w := (some v2)) rfl rfl ?_
  refine xo_iload_n rfl rfl ?_
  refine xo_iload rfl rfl ?_
  refine xo_iload rfl rfl ?_
  refine xo_iload rfl rfl ?_
  refine xo_iload rfl rfl ?_
  refine xo_iload rfl rfl ?_
  refine d_virtual_v (av := [.int l1, .int l10, .int l5, .int l11, .int l12, .int l4]) (rest := []) rfl ⟨by decide, by decide⟩ rfl rfl (by simp [xv_fit, va_rf_cat, cat_int, cat_long, cat_ref, cat_null, show xt_mx 157 = 9 from rfl, show xt_lg 157 = [7] from rfl]) (by simp [xv_room, va_rf_cat, cat_int, cat_long, cat_ref, cat_null]) (fun x0 h1 e1 => t157 e1) e (fun _ h e => ?_)
  exact d_ret rfl e
def b147_153 (F : Nat) (s0 : Option Nat) (l0 : Option Nat) (l1 : Int32) (l4 : Int32) (l5 : Int32) (l6 : Int64) (l8 : Int64) (l10 : Int32) (l11 : Int32) (l12 : Int32) : xm Unit := b147_154 F (3 : Int32) s0 l0 l1 l4 l5 l6 l8 l10 l11 l12
theorem t147_153 {sc : Nat × (Nat → Int32)} {F : Nat} {r : Unit} {h' : xv_H} {s0 : Option Nat} {l0 : Option Nat} {l1 : Int32} {l4 : Int32} {l5 : Int32} {l6 : Int64} {l8 : Int64} {l10 : Int32} {l11 : Int32} {l12 : Int32} {d2 d3 d7 d9 : Option Value} {h : xv_H} (e : b147_153 F s0 l0 l1 l4 l5 l6 l8 l10 l11 l12 h = some (r, h')) : xx sc 147 153 [some (va_rf l0), some (.int l1), d2, d3, some (.int l4), some (.int l5), some (.long l6), d7, some (.long l8), d9, some (.int l10), some (.int l11), some (.int l12)] [va_rf s0] h (fun v g => v = none ∧ g = h') := by
  unfold b147_153 at e
  refine xo_iconstV (x := 3) rfl (by decide) ?_
  exact t147_154 e
def b147_149 (F : Nat) (s0 : Option Nat) (l0 : Option Nat) (l1 : Int32) (l4 : Int32) (l5 : Int32) (l6 : Int64) (l8 : Int64) (l10 : Int32) (l11 : Int32) (l12 : Int32) : xm Unit := b147_154 F (4 : Int32) s0 l0 l1 l4 l5 l6 l8 l10 l11 l12
theorem t147_149 {sc : Nat × (Nat → Int32)} {F : Nat} {r : Unit} {h' : xv_H} {s0 : Option Nat} {l0 : Option Nat} {l1 : Int32} {l4 : Int32} {l5 : Int32} {l6 : Int64} {l8 : Int64} {l10 : Int32} {l11 : Int32} {l12 : Int32} {d2 d3 d7 d9 : Option Value} {h : xv_H} (e : b147_149 F s0 l0 l1 l4 l5 l6 l8 l10 l11 l12 h = some (r, h')) : xx sc 147 149 [some (va_rf l0), some (.int l1), d2, d3, some (.int l4), some (.int l5), some (.long l6), d7, some (.long l8), d9, some (.int l10), some (.int l11), some (.int l12)] [va_rf s0] h (fun v g => v = none ∧ g = h') := by
  unfold b147_149 at e
  refine xo_iconstV (x := 4) rfl (by decide) ?_
  refine xo_goto rfl rfl ?_
  exact t147_154 e
def b147_134 (F : Nat) (s0 : Int32) (l0 : Option Nat) (l1 : Int32) (l4 : Int32) (l5 : Int32) (l6 : Int64) (l8 : Int64) (l10 : Int32) : xm Unit := mb (nn l0) fun v1 => mb (vc 9 v1) fun _ => mb (m155 F v1 l1) fun v2 => if l10 = 0 then b147_153 F (some v1) (some v1) l1 l4 l5 l6 l8 l10 s0 v2 else b147_149 F (some v1) (some v1) l1 l4 l5 l6 l8 l10 s0 v2
theorem t147_134 {sc : Nat × (Nat → Int32)} {F : Nat} {r : Unit} {h' : xv_H} {s0 : Int32} {l0 : Option Nat} {l1 : Int32} {l4 : Int32} {l5 : Int32} {l6 : Int64} {l8 : Int64} {l10 : Int32} {d2 d3 d7 d9 d11 d12 : Option Value} {h : xv_H} (e : b147_134 F s0 l0 l1 l4 l5 l6 l8 l10 h = some (r, h')) : xx sc 147 134 [some (va_rf l0), some (.int l1), d2, d3, some (.int l4), some (.int l5), some (.long l6), d7, some (.long l8), d9, some (.int l10), d11, d12] [.int s0] h (fun v g => v = none ∧ g = h') := by
  unfold b147_134 at e
  refine xo_istore rfl (Nat.le_of_ble_eq_true rfl) rfl ?_
  refine xo_aload_nQ (w := l0) rfl rfl ?_
  refine xo_iload_n rfl rfl ?_
  refine d_nn e (fun v1 g e1 => ?_)
  subst g
  replace e := e1
  clear e1
  refine d_virtual_i (av := [.int l1]) (rest := []) rfl ⟨by decide, by decide⟩ rfl rfl (by simp [xv_fit, va_rf_cat, cat_int, cat_long, cat_ref, cat_null, show xt_mx 155 = 3 from rfl, show xt_lg 155 = [] from rfl]) (by simp [xv_room, va_rf_cat, cat_int, cat_long, cat_ref, cat_null]) (fun x0 h1 e1 => t155 e1) e (fun v2 h e => ?_)
  refine xo_istore rfl (Nat.le_of_ble_eq_true rfl) rfl ?_
  refine xo_aload_nQ (w := (some v1)) rfl rfl ?_
  refine xo_iload rfl rfl ?_
  refine d_if_eq rfl rfl e (fun _ e => ?_) (fun _ e => ?_)
  · exact t147_153 e
  · exact t147_149 e
def b147_129 (F : Nat) (l0 : Option Nat) (l1 : Int32) (l4 : Int32) (l5 : Int32) (l6 : Int64) (l8 : Int64) (l10 : Int32) : xm Unit := mb (nn l0) fun v1 => mb (vc 9 v1) fun _ => mb (m145 F v1 l1) fun v2 => b147_134 F v2 (some v1) l1 l4 l5 l6 l8 l10
theorem t147_129 {sc : Nat × (Nat → Int32)} {F : Nat} {r : Unit} {h' : xv_H} {l0 : Option Nat} {l1 : Int32} {l4 : Int32} {l5 : Int32} {l6 : Int64} {l8 : Int64} {l10 : Int32} {d2 d3 d7 d9 d11 d12 : Option Value} {h : xv_H} (e : b147_129 F l0 l1 l4 l5 l6 l8 l10 h = some (r, h')) : xx sc 147 129 [some (va_rf l0), some (.int l1), d2, d3, some (.int l4), some (.int l5), some (.long l6), d7, some (.long l8), d9, some (.int l10), d11, d12] [] h (fun v g => v = none ∧ g = h') := by
  unfold b147_129 at e
  refine xo_aload_nQ (w := l0) rfl rfl ?_
  refine xo_iload_n rfl rfl ?_
  refine d_nn e (fun v1 g e1 => ?_)
  subst g
  replace e := e1
  clear e1
  refine d_virtual_i (av := [.int l1]) (rest := []) rfl ⟨by decide, by decide⟩ rfl rfl (by simp [xv_fit, va_rf_cat, cat_int, cat_long, cat_ref, cat_null, show xt_mx 145 = 2 from rfl, show xt_lg 145 = [] from rfl]) (by simp [xv_room, va_rf_cat, cat_int, cat_long, cat_ref, cat_null]) (fun x0 h1 e1 => t145 e1) e (fun v2 h e => ?_)
  exact t147_134 e
def b147_121 (F : Nat) (l0 : Option Nat) (l1 : Int32) (l4 : Int32) (l5 : Int32) (l6 : Int64) (l8 : Int64) (l10 : Int32) : xm Unit := mb (nn l0) fun v1 => mb (vc 9 v1) fun _ => mb (m155 F v1 l1) fun v2 => b147_134 F v2 (some v1) l1 l4 l5 l6 l8 l10
theorem t147_121 {sc : Nat × (Nat → Int32)} {F : Nat} {r : Unit} {h' : xv_H} {l0 : Option Nat} {l1 : Int32} {l4 : Int32} {l5 : Int32} {l6 : Int64} {l8 : Int64} {l10 : Int32} {d2 d3 d7 d9 d11 d12 : Option Value} {h : xv_H} (e : b147_121 F l0 l1 l4 l5 l6 l8 l10 h = some (r, h')) : xx sc 147 121 [some (va_rf l0), some (.int l1), d2, d3, some (.int l4), some (.int l5), some (.long l6), d7, some (.long l8), d9, some (.int l10), d11, d12] [] h (fun v g => v = none ∧ g = h') := by
  unfold b147_121 at e
  refine xo_aload_nQ (w := l0) rfl rfl ?_
  refine xo_iload_n rfl rfl ?_
  refine d_nn e (fun v1 g e1 => ?_)
  subst g
  replace e := e1
  clear e1
  refine d_virtual_i (av := [.int l1]) (rest := []) rfl ⟨by decide, by decide⟩ rfl rfl (by simp [xv_fit, va_rf_cat, cat_int, cat_long, cat_ref, cat_null, show xt_mx 155 = 3 from rfl, show xt_lg 155 = [] from rfl]) (by simp [xv_room, va_rf_cat, cat_int, cat_long, cat_ref, cat_null]) (fun x0 h1 e1 => t155 e1) e (fun v2 h e => ?_)
  refine xo_goto rfl rfl ?_
  exact t147_134 e
def b147_114 (F : Nat) (s0 : Int32) (l0 : Option Nat) (l1 : Int32) (l4 : Int32) (l5 : Int32) (l6 : Int64) (l8 : Int64) : xm Unit := if s0 = 0 then b147_129 F l0 l1 l4 l5 l6 l8 s0 else b147_121 F l0 l1 l4 l5 l6 l8 s0
theorem t147_114 {sc : Nat × (Nat → Int32)} {F : Nat} {r : Unit} {h' : xv_H} {s0 : Int32} {l0 : Option Nat} {l1 : Int32} {l4 : Int32} {l5 : Int32} {l6 : Int64} {l8 : Int64} {d2 d3 d7 d9 d10 d11 d12 : Option Value} {h : xv_H} (e : b147_114 F s0 l0 l1 l4 l5 l6 l8 h = some (r, h')) : xx sc 147 114 [some (va_rf l0), some (.int l1), d2, d3, some (.int l4), some (.int l5), some (.long l6), d7, some (.long l8), d9, d10, d11, d12] [.int s0] h (fun v g => v = none ∧ g = h') := by
  unfold b147_114 at e
  refine xo_istore rfl (Nat.le_of_ble_eq_true rfl) rfl ?_
  refine xo_iload rfl rfl ?_
  refine d_if_eq rfl rfl e (fun _ e => ?_) (fun _ e => ?_)
  · exact t147_129 e
  · exact t147_121 e
def b147_113 (F : Nat) (l0 : Option Nat) (l1 : Int32) (l4 : Int32) (l5 : Int32) (l6 : Int64) (l8 : Int64) : xm Unit := b147_114 F (0 : Int32) l0 l1 l4 l5 l6 l8
theorem t147_113 {sc : Nat × (Nat → Int32)} {F : Nat} {r : Unit} {h' : xv_H} {l0 : Option Nat} {l1 : Int32} {l4 : Int32} {l5 : Int32} {l6 : Int64} {l8 : Int64} {d2 d3 d7 d9 d10 d11 d12 : Option Value} {h : xv_H} (e : b147_113 F l0 l1 l4 l5 l6 l8 h = some (r, h')) : xx sc 147 113 [some (va_rf l0), some (.int l1), d2, d3, some (.int l4), some (.int l5), some (.long l6), d7, some (.long l8), d9, d10, d11, d12] [] h (fun v g => v = none ∧ g = h') := by
  unfold b147_113 at e
  refine xo_iconstV (x := 0) rfl (by decide) ?_
  exact t147_114 e
def b147_109 (F : Nat) (l0 : Option Nat) (l1 : Int32) (l4 : Int32) (l5 : Int32) (l6 : Int64) (l8 : Int64) : xm Unit := b147_114 F (1 : Int32) l0 l1 l4 l5 l6 l8
theorem t147_109 {sc : Nat × (Nat → Int32)} {F : Nat} {r : Unit} {h' : xv_H} {l0 : Option Nat} {l1 : Int32} {l4 : Int32} {l5 : Int32} {l6 : Int64} {l8 : Int64} {d2 d3 d7 d9 d10 d11 d12 : Option Value} {h : xv_H} (e : b147_109 F l0 l1 l4 l5 l6 l8 h = some (r, h')) : xx sc 147 109 [some (va_rf l0), some (.int l1), d2, d3, some (.int l4), some (.int l5), some (.long l6), d7, some (.long l8), d9, d10, d11, d12] [] h (fun v g => v = none ∧ g = h') := by
  unfold b147_109 at e
  refine xo_iconstV (x := 1) rfl (by decide) ?_
  refine xo_goto rfl rfl ?_
  exact t147_114 e
def b147_0 (F : Nat) (l0 : Option Nat) (l1 : Int32) (l2 : Int64) (l4 : Int32) : xm Unit := mb (m148 F l2 (1 : Int32)) fun v1 => mb (m149 F l2) fun v2 => mb (m124 F (2 : Int32) v2 v1) fun v3 => mb (m148 F l2 (0 : Int32)) fun v4 => mb (m150 F v3 (0 : Int32) v4) fun v5 => mb (m151 F v5 (1 : Int32)) fun v6 => mb (m152 F l2 (0 : Int32)) fun v7 => mb (m153 F v6 (0 : Int32) v7) fun v8 => mb (m152 F l2 (1 : Int32)) fun v9 => mb (m153 F v8 (1 : Int32) v9) fun v10 => mb (m154 F l2) fun v11 => mb (m124 F (2 : Int32) v1 v11) fun v12 => mb (m148 F l2 (2 : Int32)) fun v13 => mb (m150 F v12 (0 : Int32) v13) fun v14 => mb (m151 F v14 (1 : Int32)) fun v15 => mb (m152 F l2 (2 : Int32)) fun v16 => mb (m153 F v15 (0 : Int32) v16) fun v17 => mb (m152 F l2 (3 : Int32)) fun v18 => mb (m153 F v17 (1 : Int32) v18) fun v19 => mb (nn l0) fun v20 => mb (vc 9 v20) fun _ => mb (m145 F v20 l1) fun v21 => if ¬ v21 = 0 then b147_113 F (some v20) l1 l4 v1 v10 v19 else b147_109 F (some v20) l1 l4 v1 v10 v19
theorem t147_0 {sc : Nat × (Nat → Int32)} {F : Nat} {r : Unit} {h' : xv_H} {l0 : Option Nat} {l1 : Int32} {l2 : Int64} {l4 : Int32} {d3 d5 d6 d7 d8 d9 d10 d11 d12 : Option Value} {h : xv_H} (e : b147_0 F l0 l1 l2 l4 h = some (r, h')) : xx sc 147 0 [some (va_rf l0), some (.int l1), some (.long l2), d3, some (.int l4), d5, d6, d7, d8, d9, d10, d11, d12] [] h (fun v g => v = none ∧ g = h') := by
  unfold b147_0 at e
  refine xo_lload_n rfl rfl ?_
  refine xo_iconstV (x := 1) rfl (by decide) ?_
  refine d_static_i (av := [.long l2, .int (1 : Int32)]) (rest := []) rfl ⟨by decide, by decide, by decide⟩ rfl rfl (by simp [xv_fit, va_rf_cat, cat_int, cat_long, cat_ref, cat_null, show xt_mx 148 = 3 from rfl, show xt_lg 148 = [0] from rfl]) (by simp [xv_room, va_rf_cat, cat_int, cat_long, cat_ref, cat_null]) (fun x0 h1 e1 => t148 e1) e (fun v1 h e => ?_)
  refine xo_istore rfl (Nat.le_of_ble_eq_true rfl) rfl ?_
  refine xo_iconstV (x := 2) rfl (by decide) ?_
  refine xo_lload_n rfl rfl ?_
  refine d_static_i (av := [.long l2]) (rest := [.int (2 : Int32)]) rfl ⟨by decide, by decide, by decide⟩ rfl rfl (by simp [xv_fit, va_rf_cat, cat_int, cat_long, cat_ref, cat_null, show xt_mx 149 = 2 from rfl, show xt_lg 149 = [0] from rfl]) (by simp [xv_room, va_rf_cat, cat_int, cat_long, cat_ref, cat_null]) (fun x0 h1 e1 => t149 e1) e (fun v2 h e => ?_)
  refine xo_iload rfl rfl ?_
  refine d_static_l (av := [.int (2 : Int32), .int v2, .int v1]) (rest := []) rfl ⟨by decide, by decide, by decide⟩ rfl rfl (by simp [xv_fit, va_rf_cat, cat_int, cat_long, cat_ref, cat_null, show xt_mx 124 = 3 from rfl, show xt_lg 124 = [] from rfl]) (by simp [xv_room, va_rf_cat, cat_int, cat_long, cat_ref, cat_null]) (fun x0 h1 e1 => t124 e1) e (fun v3 h e => ?_)
  refine xo_iconstV (x := 0) rfl (by decide) ?_
  refine xo_lload_n rfl rfl ?_
  refine xo_iconstV (x := 0) rfl (by decide) ?_
  refine d_static_i (av := [.long l2, .int (0 : Int32)]) (rest := [.int (0 : Int32), .long v3]) rfl ⟨by decide, by decide, by decide⟩ rfl rfl (by simp [xv_fit, va_rf_cat, cat_int, cat_long, cat_ref, cat_null, show xt_mx 148 = 3 from rfl, show xt_lg 148 = [0] from rfl]) (by simp [xv_room, va_rf_cat, cat_int, cat_long, cat_ref, cat_null]) (fun x0 h1 e1 => t148 e1) e (fun v4 h e => ?_)
  refine d_static_l (av := [.long v3, .int (0 : Int32), .int v4]) (rest := []) rfl ⟨by decide, by decide, by decide⟩ rfl rfl (by simp [xv_fit, va_rf_cat, cat_int, cat_long, cat_ref, cat_null, show xt_mx 150 = 4 from rfl, show xt_lg 150 = [0] from rfl]) (by simp [xv_room, va_rf_cat, cat_int, cat_long, cat_ref, cat_null]) (fun x0 h1 e1 => t150 e1) e (fun v5 h e => ?_)
  refine xo_iconstV (x := 1) rfl (by decide) ?_
  refine d_static_l (av := [.long v5, .int (1 : Int32)]) (rest := []) rfl ⟨by decide, by decide, by decide⟩ rfl rfl (by simp [xv_fit, va_rf_cat, cat_int, cat_long, cat_ref, cat_null, show xt_mx 151 = 3 from rfl, show xt_lg 151 = [0] from rfl]) (by simp [xv_room, va_rf_cat, cat_int, cat_long, cat_ref, cat_null]) (fun x0 h1 e1 => t151 e1) e (fun v6 h e => ?_)
  refine xo_lstore rfl (Nat.le_of_ble_eq_true rfl) rfl rfl ?_
  refine xo_lload rfl rfl ?_
  refine xo_iconstV (x := 0) rfl (by decide) ?_
  refine xo_lload_n rfl rfl ?_
  refine xo_iconstV (x := 0) rfl (by decide) ?_
  refine d_static_i (av := [.long l2, .int (0 : Int32)]) (rest := [.int (0 : Int32), .long v6]) rfl ⟨by decide, by decide, by decide⟩ rfl rfl (by simp [xv_fit, va_rf_cat, cat_int, cat_long, cat_ref, cat_null, show xt_mx 152 = 3 from rfl, show xt_lg 152 = [0] from rfl]) (by simp [xv_room, va_rf_cat, cat_int, cat_long, cat_ref, cat_null]) (fun x0 h1 e1 => t152 e1) e (fun v7 h e => ?_)
  refine d_static_l (av := [.long v6, .int (0 : Int32), .int v7]) (rest := []) rfl ⟨by decide, by decide, by decide⟩ rfl rfl (by simp [xv_fit, va_rf_cat, cat_int, cat_long, cat_ref, cat_null, show xt_mx 153 = 4 from rfl, show xt_lg 153 = [0] from rfl]) (by simp [xv_room, va_rf_cat, cat_int, cat_long, cat_ref, cat_null]) (fun x0 h1 e1 => t153 e1) e (fun v8 h e => ?_)
  refine xo_iconstV (x := 1) rfl (by decide) ?_
  refine xo_lload_n rfl rfl ?_
  refine xo_iconstV (x := 1) rfl (by decide) ?_
  refine d_static_i (av := [.long l2, .int (1 : Int32)]) (rest := [.int (1 : Int32), .long v8]) rfl ⟨by decide, by decide, by decide⟩ rfl rfl (by simp [xv_fit, va_rf_cat, cat_int, cat_long, cat_ref, cat_null, show xt_mx 152 = 3 from rfl, show xt_lg 152 = [0] from rfl]) (by simp [xv_room, va_rf_cat, cat_int, cat_long, cat_ref, cat_null]) (fun x0 h1 e1 => t152 e1) e (fun v9 h e => ?_)
  refine d_static_l (av := [.long v8, .int (1 : Int32), .int v9]) (rest := []) rfl ⟨by decide, by decide, by decide⟩ rfl rfl (by simp [xv_fit, va_rf_cat, cat_int, cat_long, cat_ref, cat_null, show xt_mx 153 = 4 from rfl, show xt_lg 153 = [0] from rfl]) (by simp [xv_room, va_rf_cat, cat_int, cat_long, cat_ref, cat_null]) (fun x0 h1 e1 => t153 e1) e (fun v10 h e => ?_)
  refine xo_lstore rfl (Nat.le_of_ble_eq_true rfl) rfl rfl ?_
  refine xo_iconstV (x := 2) rfl (by decide) ?_
  refine xo_iload rfl rfl ?_
  refine xo_lload_n rfl rfl ?_
  refine d_static_i (av := [.long l2]) (rest := [.int v1, .int (2 : Int32)]) rfl ⟨by decide, by decide, by decide⟩ rfl rfl (by simp [xv_fit, va_rf_cat, cat_int, cat_long, cat_ref, cat_null, show xt_mx 154 = 2 from rfl, show xt_lg 154 = [0] from rfl]) (by simp [xv_room, va_rf_cat, cat_int, cat_long, cat_ref, cat_null]) (fun x0 h1 e1 => t154 e1) e (fun v11 h e => ?_)
  refine d_static_l (av := [.int (2 : Int32), .int v1, .int v11]) (rest := []) rfl ⟨by decide, by decide, by decide⟩ rfl rfl (by simp [xv_fit, va_rf_cat, cat_int, cat_long, cat_ref, cat_null, show xt_mx 124 = 3 from rfl, show xt_lg 124 = [] from rfl]) (by simp [xv_room, va_rf_cat, cat_int, cat_long, cat_ref, cat_null]) (fun x0 h1 e1 => t124 e1) e (fun v12 h e => ?_)
  refine xo_iconstV (x := 0) rfl (by decide) ?_
  refine xo_lload_n rfl rfl ?_
  refine xo_iconstV (x := 2) rfl (by decide) ?_
  refine d_static_i (av := [.long l2, .int (2 : Int32)]) (rest := [.int (0 : Int32), .long v12]) rfl ⟨by decide, by decide, by decide⟩ rfl rfl (by simp [xv_fit, va_rf_cat, cat_int, cat_long, cat_ref, cat_null, show xt_mx 148 = 3 from rfl, show xt_lg 148 = [0] from rfl]) (by simp [xv_room, va_rf_cat, cat_int, cat_long, cat_ref, cat_null]) (fun x0 h1 e1 => t148 e1) e (fun v13 h e => ?_)
  refine d_static_l (av := [.long v12, .int (0 : Int32), .int v13]) (rest := []) rfl ⟨by decide, by decide, by decide⟩ rfl rfl (by simp [xv_fit, va_rf_cat, cat_int, cat_long, cat_ref, cat_null, show xt_mx 150 = 4 from rfl, show xt_lg 150 = [0] from rfl]) (by simp [xv_room, va_rf_cat, cat_int, cat_long, cat_ref, cat_null]) (fun x0 h1 e1 => t150 e1) e (fun v14 h e => ?_)
  refine xo_iconstV (x := 1) rfl (by decide) ?_
  refine d_static_l (av := [.long v14, .int (1 : Int32)]) (rest := []) rfl ⟨by decide, by decide, by decide⟩ rfl rfl (by simp [xv_fit, va_rf_cat, cat_int, cat_long, cat_ref, cat_null, show xt_mx 151 = 3 from rfl, show xt_lg 151 = [0] from rfl]) (by simp [xv_room, va_rf_cat, cat_int, cat_long, cat_ref, cat_null]) (fun x0 h1 e1 => t151 e1) e (fun v15 h e => ?_)
  refine xo_lstore rfl (Nat.le_of_ble_eq_true rfl) rfl rfl ?_
  refine xo_lload rfl rfl ?_
  refine xo_iconstV (x := 0) rfl (by decide) ?_
  refine xo_lload_n rfl rfl ?_
  refine xo_iconstV (x := 2) rfl (by decide) ?_
  refine d_static_i (av := [.long l2, .int (2 : Int32)]) (rest := [.int (0 : Int32), .long v15]) rfl ⟨by decide, by decide, by decide⟩ rfl rfl (by simp [xv_fit, va_rf_cat, cat_int, cat_long, cat_ref, cat_null, show xt_mx 152 = 3 from rfl, show xt_lg 152 = [0] from rfl]) (by simp [xv_room, va_rf_cat, cat_int, cat_long, cat_ref, cat_null]) (fun x0 h1 e1 => t152 e1) e (fun v16 h e => ?_)
  refine d_static_l (av := [.long v15, .int (0 : Int32), .int v16]) (rest := []) rfl ⟨by decide, by decide, by decide⟩ rfl rfl (by simp [xv_fit, va_rf_cat, cat_int, cat_long, cat_ref, cat_null, show xt_mx 153 = 4 from rfl, show xt_lg 153 = [0] from rfl]) (by simp [xv_room, va_rf_cat, cat_int, cat_long, cat_ref, cat_null]) (fun x0 h1 e1 => t153 e1) e (fun v17 h e => ?_)
  refine xo_iconstV (x := 1) rfl (by decide) ?_
  refine xo_lload_n rfl rfl ?_
  refine xo_iconstV (x := 3) rfl (by decide) ?_
  refine d_static_i (av := [.long l2, .int (3 : Int32)]) (rest := [.int (1 : Int32), .long v17]) rfl ⟨by decide, by decide, by decide⟩ rfl rfl (by simp [xv_fit, va_rf_cat, cat_int, cat_long, cat_ref, cat_null, show xt_mx 152 = 3 from rfl, show xt_lg 152 = [0] from rfl]) (by simp [xv_room, va_rf_cat, cat_int, cat_long, cat_ref, cat_null]) (fun x0 h1 e1 => t152 e1) e (fun v18 h e => ?_)
  refine d_static_l (av := [.long v17, .int (1 : Int32), .int v18]) (rest := []) rfl ⟨by decide, by decide, by decide⟩ rfl rfl (by simp [xv_fit, va_rf_cat, cat_int, cat_long, cat_ref, cat_null, show xt_mx 153 = 4 from rfl, show xt_lg 153 = [0] from rfl]) (by simp [xv_room, va_rf_cat, cat_int, cat_long, cat_ref, cat_null]) (fun x0 h1 e1 => t153 e1) e (fun v19 h e => ?_)
  refine xo_lstore rfl (Nat.le_of_ble_eq_true rfl) rfl rfl ?_
  refine xo_aload_nQ (w := l0) rfl rfl ?_
  refine xo_iload_n rfl rfl ?_
  refine d_nn e (fun v20 g e1 => ?_)
  subst g
  replace e := e1
  clear e1
  refine d_virtual_i (av := [.int l1]) (rest := []) rfl ⟨by decide, by decide⟩ rfl rfl (by simp [xv_fit, va_rf_cat, cat_int, cat_long, cat_ref, cat_null, show xt_mx 145 = 2 from rfl, show xt_lg 145 = [] from rfl]) (by simp [xv_room, va_rf_cat, cat_int, cat_long, cat_ref, cat_null]) (fun x0 h1 e1 => t145 e1) e (fun v21 h e => ?_)
  refine d_if_ne rfl rfl e (fun _ e => ?_) (fun _ e => ?_)
  · exact t147_113 e
  · exact t147_109 e
def m147 (F : Nat) (this : Nat) (p0 : Int32) (p1 : Int64) (p2 : Int32) : xm Unit := b147_0 F (some this) p0 p1 p2
theorem t147 {sc : Nat × (Nat → Int32)} {F : Nat} {this : Nat} {p0 : Int32} {p1 : Int64} {p2 : Int32} {h : xv_H} {r : Unit} {h' : xv_H} (e : m147 F this p0 p1 p2 h = some (r, h')) : xr sc 147 [.ref this, .int p0, .long p1, .int p2] h (fun v g => v = none ∧ g = h') := by
  have e0 : xv_ent (xt_mx 147) [.ref this, .int p0, .long p1, .int p2] = [some (va_rf (some this)), some (.int p0), some (.long p1), none, some (.int p2), none, none, none, none, none, none, none, none] := by simp [xv_ent, xv_sl, va_rf_cat, cat_int, cat_long, cat_ref, cat_null, va_rf_some, show xt_mx 147 = 13 from rfl]
  unfold xr
  rw [e0]
  exact t147_0 e
-- CellTreeModel.walk(I)V
def b144_92 (F : Nat) (l0 : Option Nat) (l1 : Int32) : xm Unit := mb (nn l0) fun v1 => mb (vc 9 v1) fun _ => mb (m145 F v1 l1) fun v2 => mb (vc 9 v1) fun _ => mb (m156 F v1 (1 : Int32) v2 (0 : Int32) (0 : Int64) (0 : Int32) (0 : Int32) (0 : Int32)) fun _ => mb (vc 9 v1) fun _ => mb (m160 F v1 l1 (1 : Int32) (1 : Int32)) fun _ => mr ()
theorem t144_92 {sc : Nat × (Nat → Int32)} {F : Nat} {r : Unit} {h' : xv_H} {l0 : Option Nat} {l1 : Int32} {d2 d3 d4 : Option Value} {h : xv_H} (e : b144_92 F l0 l1 h = some (r, h')) : xx sc 144 92 [some (va_rf l0), some (.int l1), d2, d3, d4] [] h (fun v g => v = none ∧ g = h') := by
  unfold b144_92 at e
  refine xo_aload_nQ (w := l0) rfl rfl ?_
  refine xo_iconstV (x := 1) rfl (by decide) ?_
  refine xo_aload_nQ (w := l0) rfl rfl ?_
  refine xo_iload_n rfl rfl ?_
  refine d_nn e (fun v1 g e1 => ?_)
  subst g
  replace e := e1
  clear e1
  refine d_virtual_i (av := [.int l1]) (rest := [.int (1 : Int32), va_rf (some v1)]) rfl ⟨by decide, by decide⟩ rfl rfl (by simp [xv_fit, va_rf_cat, cat_int, cat_long, cat_ref, cat_null, show xt_mx 145 = 2 from rfl, show xt_lg 145 = [] from rfl]) (by simp [xv_room, va_rf_cat, cat_int, cat_long, cat_ref, cat_null]) (fun x0 h1 e1 => t145 e1) e (fun v2 h e => ?_)
  refine xo_iconstV (x := 0) rfl (by decide) ?_
  refine xo_lconstV (u := 0) rfl (by decide) ?_
  refine xo_iconstV (x := 0) rfl (by decide) ?_
  refine xo_iconstV (x := 0) rfl (by decide) ?_
  refine xo_iconstV (x := 0) rfl (by decide) ?_
  refine d_virtual_v (av := [.int (1 : Int32), .int v2, .int (0 : Int32), .long (0 : Int64), .int (0 : Int32), .int (0 : Int32), .int (0 : Int32)]) (rest := []) rfl ⟨by decide, by decide⟩ rfl rfl (by simp [xv_fit, va_rf_cat, cat_int, cat_long, cat_ref, cat_null, show xt_mx 156 = 9 from rfl, show xt_lg 156 = [4] from rfl]) (by simp [xv_room, va_rf_cat, cat_int, cat_long, cat_ref, cat_null]) (fun x0 h1 e1 => t156 e1) e (fun _ h e => ?_)
  refine xo_aload_nQ (w := (some v1)) rfl rfl ?_
  refine xo_iload_n rfl rfl ?_
  refine xo_iconstV (x := 1) rfl (by decide) ?_
  refine xo_iconstV (x := 1) rfl (by decide) ?_
  refine d_virtual_v (av := [.int l1, .int (1 : Int32), .int (1 : Int32)]) (rest := []) rfl ⟨by decide, by decide⟩ rfl rfl (by simp [xv_fit, va_rf_cat, cat_int, cat_long, cat_ref, cat_null, show xt_mx 160 = 4 from rfl, show xt_lg 160 = [] from rfl]) (by simp [xv_room, va_rf_cat, cat_int, cat_long, cat_ref, cat_null]) (fun x0 h1 e1 => t160 e1) e (fun _ h e => ?_)
  exact d_ret rfl e
def b144_58 (k11 : Option Nat → Int32 → Int32 → xm Unit) (F : Nat) (l0 : Option Nat) (l1 : Int32) (l3 : Int64) : xm Unit := mb (nn l0) fun v1 => mb (gr 928 v1) fun v2 => mb (nn v2) fun v3 => mb (li v3 l1) fun v4 => mb (m159 F l3 v4 (1 : Int32)) fun v5 => mb (m152 F l3 v5) fun v6 => mb (vc 9 v1) fun _ => mb (m143 F v1 l1 v6) fun _ => mb (vc 9 v1) fun _ => mb (m145 F v1 l1) fun v7 => k11 (some v1) l1 (((24 : Int32) * l1) + v7)
theorem t144_58 {sc : Nat × (Nat → Int32)} {F : Nat} {r : Unit} {h' : xv_H} {k11 : Option Nat → Int32 → Int32 → xm Unit} (hk11 : ∀ (l0 : Option Nat) (l1 : Int32) (l2 : Int32) (d3 d4 : Option Value) (h : xv_H), k11 l0 l1 l2 h = some (r, h') → xx sc 144 11 [some (va_rf l0), some (.int l1), some (.int l2), d3, d4] [] h (fun v g => v = none ∧ g = h')) {l0 : Option Nat} {l1 : Int32} {l3 : Int64} {d2 d4 : Option Value} {h : xv_H} (e : b144_58 k11 F l0 l1 l3 h = some (r, h')) : xx sc 144 58 [some (va_rf l0), some (.int l1), d2, some (.long l3), d4] [] h (fun v g => v = none ∧ g = h') := by
  unfold b144_58 at e
  refine xo_aload_nQ (w := l0) rfl rfl ?_
  refine xo_iload_n rfl rfl ?_
  refine xo_lload_n rfl rfl ?_
  refine xo_lload_n rfl rfl ?_
  refine xo_aload_nQ (w := l0) rfl rfl ?_
  refine d_nn e (fun v1 g e1 => ?_)
  subst g
  replace e := e1
  clear e1
  refine d_getr rfl e (fun v2 e => ?_)
  refine xo_iload_n rfl rfl ?_
  refine d_nn e (fun v3 g e1 => ?_)
  subst g
  replace e := e1
  clear e1
  refine d_iald rfl e (fun v4 e => ?_)
  refine xo_iconstV (x := 1) rfl (by decide) ?_
  refine d_static_i (av := [.long l3, .int v4, .int (1 : Int32)]) (rest := [.long l3, .int l1, va_rf (some v1)]) rfl ⟨by decide, by decide, by decide⟩ rfl rfl (by simp [xv_fit, va_rf_cat, cat_int, cat_long, cat_ref, cat_null, show xt_mx 159 = 6 from rfl, show xt_lg 159 = [0] from rfl]) (by simp [xv_room, va_rf_cat, cat_int, cat_long, cat_ref, cat_null]) (fun x0 h1 e1 => t159 e1) e (fun v5 h e => ?_)
  refine d_static_i (av := [.long l3, .int v5]) (rest := [.int l1, va_rf (some v1)]) rfl ⟨by decide, by decide, by decide⟩ rfl rfl (by simp [xv_fit, va_rf_cat, cat_int, cat_long, cat_ref, cat_null, show xt_mx 152 = 3 from rfl, show xt_lg 152 = [0] from rfl]) (by simp [xv_room, va_rf_cat, cat_int, cat_long, cat_ref, cat_null]) (fun x0 h1 e1 => t152 e1) e (fun v6 h e => ?_)
  refine d_virtual_v (av := [.int l1, .int v6]) (rest := []) rfl ⟨by decide, by decide⟩ rfl rfl (by simp [xv_fit, va_rf_cat, cat_int, cat_long, cat_ref, cat_null, show xt_mx 143 = 3 from rfl, show xt_lg 143 = [] from rfl]) (by simp [xv_room, va_rf_cat, cat_int, cat_long, cat_ref, cat_null]) (fun x0 h1 e1 => t143 e1) e (fun _ h e => ?_)
  refine xo_bipushV (x := 24) rfl (by decide) ?_
  refine xo_iload_n rfl rfl ?_
  refine xo_imul rfl ?_
  refine xo_aload_nQ (w := (some v1)) rfl rfl ?_
  refine xo_iload_n rfl rfl ?_
  refine d_virtual_i (av := [.int l1]) (rest := [.int ((24 : Int32) * l1)]) rfl ⟨by decide, by decide⟩ rfl rfl (by simp [xv_fit, va_rf_cat, cat_int, cat_long, cat_ref, cat_null, show xt_mx 145 = 2 from rfl, show xt_lg 145 = [] from rfl]) (by simp [xv_room, va_rf_cat, cat_int, cat_long, cat_ref, cat_null]) (fun x0 h1 e1 => t145 e1) e (fun v7 h e => ?_)
  refine xo_iadd rfl ?_
  refine xo_istore_n rfl (Nat.le_of_ble_eq_true rfl) rfl ?_
  refine xo_goto rfl rfl ?_
  exact hk11 _ _ _ _ _ _ e
def b144_45 (k11 : Option Nat → Int32 → Int32 → xm Unit) (F : Nat) (l0 : Option Nat) (l1 : Int32) (l2 : Int32) (l3 : Int64) : xm Unit := mb (nn l0) fun v1 => mb (gr 922 v1) fun v2 => mb (nn v2) fun v3 => mb (li v3 l2) fun v4 => mb (vc 9 v1) fun _ => mb (m147 F v1 l1 l3 v4) fun _ => mr ()
theorem t144_45 {sc : Nat × (Nat → Int32)} {F : Nat} {r : Unit} {h' : xv_H} {k11 : Option Nat → Int32 → Int32 → xm Unit} (hk11 : ∀ (l0 : Option Nat) (l1 : Int32) (l2 : Int32) (d3 d4 : Option Value) (h : xv_H), k11 l0 l1 l2 h = some (r, h') → xx sc 144 11 [some (va_rf l0), some (.int l1), some (.int l2), d3, d4] [] h (fun v g => v = none ∧ g = h')) {l0 : Option Nat} {l1 : Int32} {l2 : Int32} {l3 : Int64} {d4 : Option Value} {h : xv_H} (e : b144_45 k11 F l0 l1 l2 l3 h = some (r, h')) : xx sc 144 45 [some (va_rf l0), some (.int l1), some (.int l2), some (.long l3), d4] [] h (fun v g => v = none ∧ g = h') := by
  unfold b144_45 at e
  refine xo_aload_nQ (w := l0) rfl rfl ?_
  refine xo_iload_n rfl rfl ?_
  refine xo_lload_n rfl rfl ?_
  refine xo_aload_nQ (w := l0) rfl rfl ?_
  refine d_nn e (fun v1 g e1 => ?_)
  subst g
  replace e := e1
  clear e1
  refine d_getr rfl e (fun v2 e => ?_)
  refine xo_iload_n rfl rfl ?_
  refine d_nn e (fun v3 g e1 => ?_)
  subst g
  replace e := e1
  clear e1
  refine d_iald rfl e (fun v4 e => ?_)
  refine d_virtual_v (av := [.int l1, .long l3, .int v4]) (rest := []) rfl ⟨by decide, by decide⟩ rfl rfl (by simp [xv_fit, va_rf_cat, cat_int, cat_long, cat_ref, cat_null, show xt_mx 147 = 13 from rfl, show xt_lg 147 = [2, 6, 8] from rfl]) (by simp [xv_room, va_rf_cat, cat_int, cat_long, cat_ref, cat_null]) (fun x0 h1 e1 => t147 e1) e (fun _ h e => ?_)
  exact d_ret rfl e
def b144_35 (k11 : Option Nat → Int32 → Int32 → xm Unit) (F : Nat) (l0 : Option Nat) (l1 : Int32) (l2 : Int32) (l3 : Int64) : xm Unit := mb (nn l0) fun v1 => mb (gr 925 v1) fun v2 => mb (nn v2) fun v3 => mb (li v3 l1) fun v4 => if ¬ v4 = (2 : Int32) then b144_58 k11 F (some v1) l1 l3 else b144_45 k11 F (some v1) l1 l2 l3
theorem t144_35 {sc : Nat × (Nat → Int32)} {F : Nat} {r : Unit} {h' : xv_H} {k11 : Option Nat → Int32 → Int32 → xm Unit} (hk11 : ∀ (l0 : Option Nat) (l1 : Int32) (l2 : Int32) (d3 d4 : Option Value) (h : xv_H), k11 l0 l1 l2 h = some (r, h') → xx sc 144 11 [some (va_rf l0), some (.int l1), some (.int l2), d3, d4] [] h (fun v g => v = none ∧ g = h')) {l0 : Option Nat} {l1 : Int32} {l2 : Int32} {l3 : Int64} {d4 : Option Value} {h : xv_H} (e : b144_35 k11 F l0 l1 l2 l3 h = some (r, h')) : xx sc 144 35 [some (va_rf l0), some (.int l1), some (.int l2), some (.long l3), d4] [] h (fun v g => v = none ∧ g = h') := by
  unfold b144_35 at e
  refine xo_aload_nQ (w := l0) rfl rfl ?_
  refine d_nn e (fun v1 g e1 => ?_)
  subst g
  replace e := e1
  clear e1
  refine d_getr rfl e (fun v2 e => ?_)
  refine xo_iload_n rfl rfl ?_
  refine d_nn e (fun v3 g e1 => ?_)
  subst g
  replace e := e1
  clear e1
  refine d_iald rfl e (fun v4 e => ?_)
  refine xo_iconstV (x := 2) rfl (by decide) ?_
  refine d_icmp_ne rfl rfl e (fun _ e => ?_) (fun _ e => ?_)
  · exact t144_58 hk11 e
  · exact t144_45 hk11 e
def b144_20 (k11 : Option Nat → Int32 → Int32 → xm Unit) (F : Nat) (l0 : Option Nat) (l1 : Int32) (l2 : Int32) : xm Unit := mb (nn l0) fun v1 => mb (gr 923 v1) fun v2 => mb (nn v2) fun v3 => mb (ll v3 l2) fun v4 => mb (m146 F v4) fun v5 => if ¬ v5 = (3 : Int32) then b144_58 k11 F (some v1) l1 v4 else b144_35 k11 F (some v1) l1 l2 v4
theorem t144_20 {sc : Nat × (Nat → Int32)} {F : Nat} {r : Unit} {h' : xv_H} {k11 : Option Nat → Int32 → Int32 → xm Unit} (hk11 : ∀ (l0 : Option Nat) (l1 : Int32) (l2 : Int32) (d3 d4 : Option Value) (h : xv_H), k11 l0 l1 l2 h = some (r, h') → xx sc 144 11 [some (va_rf l0), some (.int l1), some (.int l2), d3, d4] [] h (fun v g => v = none ∧ g = h')) {l0 : Option Nat} {l1 : Int32} {l2 : Int32} {d3 d4 : Option Value} {h : xv_H} (e : b144_20 k11 F l0 l1 l2 h = some (r, h')) : xx sc 144 20 [some (va_rf l0), some (.int l1), some (.int l2), d3, d4] [] h (fun v g => v = none ∧ g = h') := by
  unfold b144_20 at e
  refine xo_aload_nQ (w := l0) rfl rfl ?_
  refine d_nn e (fun v1 g e1 => ?_)
  subst g
  replace e := e1
  clear e1
  refine d_getr rfl e (fun v2 e => ?_)
  refine xo_iload_n rfl rfl ?_
  refine d_nn e (fun v3 g e1 => ?_)
  subst g
  replace e := e1
  clear e1
  refine d_lald rfl e (fun v4 e => ?_)
  refine xo_lstore_n rfl (Nat.le_of_ble_eq_true rfl) rfl rfl ?_
  refine xo_lload_n rfl rfl ?_
  refine d_static_i (av := [.long v4]) (rest := []) rfl ⟨by decide, by decide, by decide⟩ rfl rfl (by simp [xv_fit, va_rf_cat, cat_int, cat_long, cat_ref, cat_null, show xt_mx 146 = 2 from rfl, show xt_lg 146 = [0] from rfl]) (by simp [xv_room, va_rf_cat, cat_int, cat_long, cat_ref, cat_null]) (fun x0 h1 e1 => t146 e1) e (fun v5 h e => ?_)
  refine xo_iconstV (x := 3) rfl (by decide) ?_
  refine d_icmp_ne rfl rfl e (fun _ e => ?_) (fun _ e => ?_)
  · exact t144_58 hk11 e
  · exact t144_35 hk11 e
def b144_11 (F : Nat) : Nat → Option Nat → Int32 → Int32 → xm Unit
  | 0, _, _, _ => fun _ => none
  | f + 1, l0, l1, l2 => mb (nn l0) fun v1 => mb (gr 922 v1) fun v2 => mb (nn v2) fun v3 => mb (li v3 l2) fun v4 => if v4 ≤ 0 then b144_92 F (some v1) l1 else b144_20 (b144_11 F f) F (some v1) l1 l2
theorem t144_11 {sc : Nat × (Nat → Int32)} {F : Nat} {r : Unit} {h' : xv_H} : ∀ (f : Nat) (l0 : Option Nat) (l1 : Int32) (l2 : Int32) (d3 d4 : Option Value) (h : xv_H), b144_11 F f l0 l1 l2 h = some (r, h') → xx sc 144 11 [some (va_rf l0), some (.int l1), some (.int l2), d3, d4] [] h (fun v g => v = none ∧ g = h') := by
  intro f
  induction f with
  | zero => intro l0 l1 l2 d3 d4 h e; cases e
  | succ f ih =>
    intro l0 l1 l2 d3 d4 h e
    unfold b144_11 at e
    refine xo_aload_nQ (w := l0) rfl rfl ?_
    refine d_nn e (fun v1 g e1 => ?_)
    subst g
    replace e := e1
    clear e1
    refine d_getr rfl e (fun v2 e => ?_)
    refine xo_iload_n rfl rfl ?_
    refine d_nn e (fun v3 g e1 => ?_)
    subst g
    replace e := e1
    clear e1
    refine d_iald rfl e (fun v4 e => ?_)
    refine d_if_le rfl rfl e (fun _ e => ?_) (fun _ e => ?_)
    · exact t144_92 e
    · exact t144_20 (fun a0 a1 a2 a3 a4 h e => ih a0 a1 a2 a3 a4 h e) e
def b144_0 (F : Nat) (l0 : Option Nat) (l1 : Int32) : xm Unit := mb (nn l0) fun v1 => mb (vc 9 v1) fun _ => mb (m145 F v1 l1) fun v2 => b144_11 F F (some v1) l1 (((24 : Int32) * l1) + v2)
theorem t144_0 {sc : Nat × (Nat → Int32)} {F : Nat} {r : Unit} {h' : xv_H} {l0 : Option Nat} {l1 : Int32} {d2 d3 d4 : Option Value} {h : xv_H} (e : b144_0 F l0 l1 h = some (r, h')) : xx sc 144 0 [some (va_rf l0), some (.int l1), d2, d3, d4] [] h (fun v g => v = none ∧ g = h') := by
  unfold b144_0 at e
  refine xo_bipushV (x := 24) rfl (by decide) ?_
  refine xo_iload_n rfl rfl ?_
  refine xo_imul rfl ?_
  refine xo_aload_nQ (w := l0) rfl rfl ?_
  refine xo_iload_n rfl rfl ?_
  refine d_nn e (fun v1 g e1 => ?_)
  subst g
  replace e := e1
  clear e1
  refine d_virtual_i (av := [.int l1]) (rest := [.int ((24 : Int32) * l1)]) rfl ⟨by decide, by decide⟩ rfl rfl (by simp [xv_fit, va_rf_cat, cat_int, cat_long, cat_ref, cat_null, show xt_mx 145 = 2 from rfl, show xt_lg 145 = [] from rfl]) (by simp [xv_room, va_rf_cat, cat_int, cat_long, cat_ref, cat_null]) (fun x0 h1 e1 => t145 e1) e (fun v2 h e => ?_)
  refine xo_iadd rfl ?_
  refine xo_istore_n rfl (Nat.le_of_ble_eq_true rfl) rfl ?_
  exact t144_11 F _ _ _ _ _ _ e
def m144 (F : Nat) (this : Nat) (p0 : Int32) : xm Unit := b144_0 F (some this) p0
theorem t144 {sc : Nat × (Nat → Int32)} {F : Nat} {this : Nat} {p0 : Int32} {h : xv_H} {r : Unit} {h' : xv_H} (e : m144 F this p0 h = some (r, h')) : xr sc 144 [.ref this, .int p0] h (fun v g => v = none ∧ g = h') := by
  have e0 : xv_ent (xt_mx 144) [.ref this, .int p0] = [some (va_rf (some this)), some (.int p0), none, none, none] := by simp [xv_ent, xv_sl, va_rf_cat, cat_int, cat_long, cat_ref, cat_null, va_rf_some, show xt_mx 144 = 5 from rfl]
  unfold xr
  rw [e0]
  exact t144_0 e
-- CellTreeModel.startWalk(I)V
def b142_0 (F : Nat) (l0 : Option Nat) (l1 : Int32) : xm Unit := mb (nn l0) fun v1 => mb (gr 938 v1) fun v2 => mb (nn v2) fun v3 => mb (si v3 l1 (0 : Int32)) fun _ => mb (vc 9 v1) fun _ => mb (m143 F v1 l1 (0 : Int32)) fun _ => mb (vc 9 v1) fun _ => mb (m144 F v1 l1) fun _ => mr ()
theorem t142_0 {sc : Nat × (Nat → Int32)} {F : Nat} {r : Unit} {h' : xv_H} {l0 : Option Nat} {l1 : Int32} {h : xv_H} (e : b142_0 F l0 l1 h = some (r, h')) : xx sc 142 0 [some (va_rf l0), some (.int l1)] [] h (fun v g => v = none ∧ g = h') := by
  unfold b142_0 at e
  refine xo_aload_nQ (w := l0) rfl rfl ?_
  refine d_nn e (fun v1 g e1 => ?_)
  subst g
  replace e := e1
  clear e1
  refine d_getr rfl e (fun v2 e => ?_)
  refine xo_iload_n rfl rfl ?_
  refine xo_iconstV (x := 0) rfl (by decide) ?_
  refine d_nn e (fun v3 g e1 => ?_)
  subst g
  replace e := e1
  clear e1
  refine d_iast rfl e (fun h e => ?_)
  refine xo_aload_nQ (w := (some v1)) rfl rfl ?_
  refine xo_iload_n rfl rfl ?_
  refine xo_iconstV (x := 0) rfl (by decide) ?_
  refine d_virtual_v (av := [.int l1, .int (0 : Int32)]) (rest := []) rfl ⟨by decide, by decide⟩ rfl rfl (by simp [xv_fit, va_rf_cat, cat_int, cat_long, cat_ref, cat_null, show xt_mx 143 = 3 from rfl, show xt_lg 143 = [] from rfl]) (by simp [xv_room, va_rf_cat, cat_int, cat_long, cat_ref, cat_null]) (fun x0 h1 e1 => t143 e1) e (fun _ h e => ?_)
  refine xo_aload_nQ (w := (some v1)) rfl rfl ?_
  refine xo_iload_n rfl rfl ?_
  refine d_virtual_v (av := [.int l1]) (rest := []) rfl ⟨by decide, by decide⟩ rfl rfl (by simp [xv_fit, va_rf_cat, cat_int, cat_long, cat_ref, cat_null, show xt_mx 144 = 5 from rfl, show xt_lg 144 = [3] from rfl]) (by simp [xv_room, va_rf_cat, cat_int, cat_long, cat_ref, cat_null]) (fun x0 h1 e1 => t144 e1) e (fun _ h e => ?_)
  exact d_ret rfl e
def m142 (F : Nat) (this : Nat) (p0 : Int32) : xm Unit := b142_0 F (some this) p0
theorem t142 {sc : Nat × (Nat → Int32)} {F : Nat} {this : Nat} {p0 : Int32} {h : xv_H} {r : Unit} {h' : xv_H} (e : m142 F this p0 h = some (r, h')) : xr sc 142 [.ref this, .int p0] h (fun v g => v = none ∧ g = h') := by
  have e0 : xv_ent (xt_mx 142) [.ref this, .int p0] = [some (va_rf (some this)), some (.int p0)] := by simp [xv_ent, xv_sl, va_rf_cat, cat_int, cat_long, cat_ref, cat_null, va_rf_some, show xt_mx 142 = 2 from rfl]
  unfold xr
  rw [e0]
  exact t142_0 e
-- CellTreeModel.anew(I)V
def b141_0 (F : Nat) (l0 : Option Nat) (l1 : Int32) : xm Unit := mb (nn l0) fun v1 => mb (gr 928 v1) fun v2 => mb (gr 929 v1) fun v3 => mb (nn v3) fun v4 => mb (li v4 l1) fun v5 => mb (nn v2) fun v6 => mb (si v6 l1 v5) fun _ => mb (gr 932 v1) fun v7 => mb (nn v7) fun v8 => mb (si v8 l1 (0 : Int32)) fun _ => mb (gr 933 v1) fun v9 => mb (nn v9) fun v10 => mb (sb v10 l1 (0 : Int32)) fun _ => mb (gr 939 v1) fun v11 => mb (nn v11) fun v12 => mb (si v12 l1 (0 : Int32)) fun _ => mb (vc 9 v1) fun _ => mb (m142 F v1 l1) fun _ => mr ()
theorem t141_0 {sc : Nat × (Nat → Int32)} {F : Nat} {r : Unit} {h' : xv_H} {l0 : Option Nat} {l1 : Int32} {h : xv_H} (e : b141_0 F l0 l1 h = some (r, h')) : xx sc 141 0 [some (va_rf l0), some (.int l1)] [] h (fun v g => v = none ∧ g = h') := by
  unfold b141_0 at e
  refine xo_aload_nQ (w := l0) rfl rfl ?_
  refine d_nn e (fun v1 g e1 => ?_)
  subst g
  replace e := e1
  clear e1
  refine d_getr rfl e (fun v2 e => ?_)
  refine xo_iload_n rfl rfl ?_
  refine xo_aload_nQ (w := (some v1)) rfl rfl ?_
  refine d_getr rfl e (fun v3 e => ?_)
  refine xo_iload_n rfl rfl ?_
  refine d_nn e (fun v4 g e1 => ?_)
  subst g
  replace e := e1
  clear e1
  refine d_iald rfl e (fun v5 e => ?_)
  refine d_nn e (fun v6 g e1 => ?_)
  subst g
  replace e := e1
  clear e1
  refine d_iast rfl e (fun h e => ?_)
  refine xo_aload_nQ (w := (some v1)) rfl rfl ?_
  refine d_getr rfl e (fun v7 e => ?_)
  refine xo_iload_n rfl rfl ?_
  refine xo_iconstV (x := 0) rfl (by decide) ?_
  refine d_nn e (fun v8 g e1 => ?_)
  subst g
  replace e := e1
  clear e1
  refine d_iast rfl e (fun h e => ?_)
  refine xo_aload_nQ (w := (some v1)) rfl rfl ?_
  refine d_getr rfl e (fun v9 e => ?_)
  refine xo_iload_n rfl rfl ?_
  refine xo_iconstV (x := 0) rfl (by decide) ?_
  refine d_nn e (fun v10 g e1 => ?_)
  subst g
  replace e := e1
  clear e1
  refine d_bast rfl e (fun h e => ?_)
  refine xo_aload_nQ (w := (some v1)) rfl rfl ?_
  refine d_getr rfl e (fun v11 e => ?_)
  refine xo_iload_n rfl rfl ?_
  refine xo_iconstV (x := 0) rfl (by decide) ?_
  refine d_nn e (fun v12 g e1 => ?_)
  subst g
  replace e := e1
  clear e1
  refine d_iast rfl e (fun h e => ?_)
  refine xo_aload_nQ (w := (some v1)) rfl rfl ?_
  refine xo_iload_n rfl rfl ?_
  refine d_virtual_v (av := [.int l1]) (rest := []) rfl ⟨by decide, by decide⟩ rfl rfl (by simp [xv_fit, va_rf_cat, cat_int, cat_long, cat_ref, cat_null, show xt_mx 142 = 2 from rfl, show xt_lg 142 = [] from rfl]) (by simp [xv_room, va_rf_cat, cat_int, cat_long, cat_ref, cat_null]) (fun x0 h1 e1 => t142 e1) e (fun _ h e => ?_)
  exact d_ret rfl e
def m141 (F : Nat) (this : Nat) (p0 : Int32) : xm Unit := b141_0 F (some this) p0
theorem t141 {sc : Nat × (Nat → Int32)} {F : Nat} {this : Nat} {p0 : Int32} {h : xv_H} {r : Unit} {h' : xv_H} (e : m141 F this p0 h = some (r, h')) : xr sc 141 [.ref this, .int p0] h (fun v g => v = none ∧ g = h') := by
  have e0 : xv_ent (xt_mx 141) [.ref this, .int p0] = [some (va_rf (some this)), some (.int p0)] := by simp [xv_ent, xv_sl, va_rf_cat, cat_int, cat_long, cat_ref, cat_null, va_rf_some, show xt_mx 141 = 2 from rfl]
  unfold xr
  rw [e0]
  exact t141_0 e
-- CellTreeModel.wrong(I)V
def b139_39 (F : Nat) : xm Unit := mr ()
theorem t139_39 {sc : Nat × (Nat → Int32)} {F : Nat} {r : Unit} {h' : xv_H} {d0 d1 : Option Value} {h : xv_H} (e : b139_39 F h = some (r, h')) : xx sc 139 39 [d0, d1] [] h (fun v g => v = none ∧ g = h') := by
  unfold b139_39 at e
  exact d_ret rfl e
def b139_34 (F : Nat) (l0 : Option Nat) (l1 : Int32) : xm Unit := mb (nn l0) fun v1 => mb (vc 9 v1) fun _ => mb (m141 F v1 l1) fun _ => b139_39 F
theorem t139_34 {sc : Nat × (Nat → Int32)} {F : Nat} {r : Unit} {h' : xv_H} {l0 : Option Nat} {l1 : Int32} {h : xv_H} (e : b139_34 F l0 l1 h = some (r, h')) : xx sc 139 34 [some (va_rf l0), some (.int l1)] [] h (fun v g => v = none ∧ g = h') := by
  unfold b139_34 at e
  refine xo_aload_nQ (w := l0) rfl rfl ?_
  refine xo_iload_n rfl rfl ?_
  refine d_nn e (fun v1 g e1 => ?_)
  subst g
  replace e := e1
  clear e1
  refine d_virtual_v (av := [.int l1]) (rest := []) rfl ⟨by decide, by decide⟩ rfl rfl (by simp [xv_fit, va_rf_cat, cat_int, cat_long, cat_ref, cat_null, show xt_mx 141 = 2 from rfl, show xt_lg 141 = [] from rfl]) (by simp [xv_room, va_rf_cat, cat_int, cat_long, cat_ref, cat_null]) (fun x0 h1 e1 => t141 e1) e (fun _ h e => ?_)
  exact t139_39 e
def b139_24 (F : Nat) (l0 : Option Nat) (l1 : Int32) : xm Unit := mb (nn l0) fun v1 => mb (gr 926 v1) fun v2 => mb (nn v2) fun v3 => mb (si v3 l1 (4 : Int32)) fun _ => b139_39 F
theorem t139_24 {sc : Nat × (Nat → Int32)} {F : Nat} {r : Unit} {h' : xv_H} {l0 : Option Nat} {l1 : Int32} {h : xv_H} (e : b139_24 F l0 l1 h = some (r, h')) : xx sc 139 24 [some (va_rf l0), some (.int l1)] [] h (fun v g => v = none ∧ g = h') := by
  unfold b139_24 at e
  refine xo_aload_nQ (w := l0) rfl rfl ?_
  refine d_nn e (fun v1 g e1 => ?_)
  subst g
  replace e := e1
  clear e1
  refine d_getr rfl e (fun v2 e => ?_)
  refine xo_iload_n rfl rfl ?_
  refine xo_iconstV (x := 4) rfl (by decide) ?_
  refine d_nn e (fun v3 g e1 => ?_)
  subst g
  replace e := e1
  clear e1
  refine d_iast rfl e (fun h e => ?_)
  refine xo_goto rfl rfl ?_
  exact t139_39 e
def b139_0 (F : Nat) (l0 : Option Nat) (l1 : Int32) : xm Unit := mb (nn l0) fun v1 => mb (vc 9 v1) fun _ => mb (m140 F v1 l1) fun _ => mb (gr 927 v1) fun v2 => mb (nn v2) fun v3 => mb (li v3 l1) fun v4 => mb (si v3 l1 (v4 - (1 : Int32))) fun _ => mb (gr 927 v1) fun v5 => mb (nn v5) fun v6 => mb (li v6 l1) fun v7 => if ¬ v7 = 0 then b139_34 F (some v1) l1 else b139_24 F (some v1) l1
theorem t139_0 {sc : Nat × (Nat → Int32)} {F : Nat} {r : Unit} {h' : xv_H} {l0 : Option Nat} {l1 : Int32} {h : xv_H} (e : b139_0 F l0 l1 h = some (r, h')) : xx sc 139 0 [some (va_rf l0), some (.int l1)] [] h (fun v g => v = none ∧ g = h') := by
  unfold b139_0 at e
  refine xo_aload_nQ (w := l0) rfl rfl ?_
  refine xo_iload_n rfl rfl ?_
  refine d_nn e (fun v1 g e1 => ?_)
  subst g
  replace e := e1
  clear e1
  refine d_virtual_v (av := [.int l1]) (rest := []) rfl ⟨by decide, by decide⟩ rfl rfl (by simp [xv_fit, va_rf_cat, cat_int, cat_long, cat_ref, cat_null, show xt_mx 140 = 3 from rfl, show xt_lg 140 = [] from rfl]) (by simp [xv_room, va_rf_cat, cat_int, cat_long, cat_ref, cat_null]) (fun x0 h1 e1 => t140 e1) e (fun _ h e => ?_)
  refine xo_aload_nQ (w := (some v1)) rfl rfl ?_
  refine d_getr rfl e (fun v2 e => ?_)
  refine xo_iload_n rfl rfl ?_
  refine xo_dup2 rfl (by first | rfl | exact va_rf_cat _) (by first | rfl | exact va_rf_cat _) ?_
  refine d_nn e (fun v3 g e1 => ?_)
  subst g
  replace e := e1
  clear e1
  refine d_iald rfl e (fun v4 e => ?_)
  refine xo_iconstV (x := 1) rfl (by decide) ?_
  refine xo_isub rfl ?_
  refine d_iast rfl e (fun h e => ?_)
  refine xo_aload_nQ (w := (some v1)) rfl rfl ?_
  refine d_getr rfl e (fun v5 e => ?_)
  refine xo_iload_n rfl rfl ?_
  refine d_nn e (fun v6 g e1 => ?_)
  subst g
  replace e := e1
  clear e1
  refine d_iald rfl e (fun v7 e => ?_)
  refine d_if_ne rfl rfl e (fun _ e => ?_) (fun _ e => ?_)
  · exact t139_34 e
  · exact t139_24 e
def m139 (F : Nat) (this : Nat) (p0 : Int32) : xm Unit := b139_0 F (some this) p0
theorem t139 {sc : Nat × (Nat → Int32)} {F : Nat} {this : Nat} {p0 : Int32} {h : xv_H} {r : Unit} {h' : xv_H} (e : m139 F this p0 h = some (r, h')) : xr sc 139 [.ref this, .int p0] h (fun v g => v = none ∧ g = h') := by
  have e0 : xv_ent (xt_mx 139) [.ref this, .int p0] = [some (va_rf (some this)), some (.int p0)] := by simp [xv_ent, xv_sl, va_rf_cat, cat_int, cat_long, cat_ref, cat_null, va_rf_some, show xt_mx 139 = 2 from rfl]
  unfold xr
  rw [e0]
  exact t139_0 e
-- CellTreeModel.refused(II)V
def b138_54 (F : Nat) (l0 : Option Nat) (l1 : Int32) : xm Unit := mb (nn l0) fun v1 => mb (vc 9 v1) fun _ => mb (m139 F v1 l1) fun _ => mr ()
theorem t138_54 {sc : Nat × (Nat → Int32)} {F : Nat} {r : Unit} {h' : xv_H} {l0 : Option Nat} {l1 : Int32} {d2 d3 d4 : Option Value} {h : xv_H} (e : b138_54 F l0 l1 h = some (r, h')) : xx sc 138 54 [some (va_rf l0), some (.int l1), d2, d3, d4] [] h (fun v g => v = none ∧ g = h') := by
  unfold b138_54 at e
  refine xo_aload_nQ (w := l0) rfl rfl ?_
  refine xo_iload_n rfl rfl ?_
  refine d_nn e (fun v1 g e1 => ?_)
  subst g
  replace e := e1
  clear e1
  refine d_virtual_v (av := [.int l1]) (rest := []) rfl ⟨by decide, by decide⟩ rfl rfl (by simp [xv_fit, va_rf_cat, cat_int, cat_long, cat_ref, cat_null, show xt_mx 139 = 2 from rfl, show xt_lg 139 = [] from rfl]) (by simp [xv_room, va_rf_cat, cat_int, cat_long, cat_ref, cat_null]) (fun x0 h1 e1 => t139 e1) e (fun _ h e => ?_)
  exact d_ret rfl e
def b138_48 (k17 : Option Nat → Int32 → Int32 → Int32 → Int32 → xm Unit) (F : Nat) (l0 : Option Nat) (l1 : Int32) (l2 : Int32) (l3 : Int32) (l4 : Int32) : xm Unit := k17 l0 l1 l2 l3 (l4 + (1 : Int32))
theorem t138_48 {sc : Nat × (Nat → Int32)} {F : Nat} {r : Unit} {h' : xv_H} {k17 : Option Nat → Int32 → Int32 → Int32 → Int32 → xm Unit} (hk17 : ∀ (l0 : Option Nat) (l1 : Int32) (l2 : Int32) (l3 : Int32) (l4 : Int32) (h : xv_H), k17 l0 l1 l2 l3 l4 h = some (r, h') → xx sc 138 17 [some (va_rf l0), some (.int l1), some (.int l2), some (.int l3), some (.int l4)] [] h (fun v g => v = none ∧ g = h')) {l0 : Option Nat} {l1 : Int32} {l2 : Int32} {l3 : Int32} {l4 : Int32} {h : xv_H} (e : b138_48 k17 F l0 l1 l2 l3 l4 h = some (r, h')) : xx sc 138 48 [some (va_rf l0), some (.int l1), some (.int l2), some (.int l3), some (.int l4)] [] h (fun v g => v = none ∧ g = h') := by
  unfold b138_48 at e
  refine xo_iincV (z := 1) rfl (by decide) rfl (Nat.le_of_ble_eq_true rfl) rfl ?_
  refine xo_goto rfl rfl ?_
  exact hk17 _ _ _ _ _ _ e
def b138_39 (k17 : Option Nat → Int32 → Int32 → Int32 → Int32 → xm Unit) (F : Nat) (l0 : Option Nat) (l1 : Int32) (l2 : Int32) (l3 : Int32) (l4 : Int32) : xm Unit := mb (nn l0) fun v1 => mb (vc 9 v1) fun _ => mb (m132 F v1 (5 : Int32) l3 l4) fun v2 => b138_48 k17 F (some v1) l1 l2 l3 l4
theorem t138_39 {sc : Nat × (Nat → Int32)} {F : Nat} {r : Unit} {h' : xv_H} {k17 : Option Nat → Int32 → Int32 → Int32 → Int32 → xm Unit} (hk17 : ∀ (l0 : Option Nat) (l1 : Int32) (l2 : Int32) (l3 : Int32) (l4 : Int32) (h : xv_H), k17 l0 l1 l2 l3 l4 h = some (r, h') → xx sc 138 17 [some (va_rf l0), some (.int l1), some (.int l2), some (.int l3), some (.int l4)] [] h (fun v g => v = none ∧ g = h')) {l0 : Option Nat} {l1 : Int32} {l2 : Int32} {l3 : Int32} {l4 : Int32} {h : xv_H} (e : b138_39 k17 F l0 l1 l2 l3 l4 h = some (r, h')) : xx sc 138 39 [some (va_rf l0), some (.int l1), some (.int l2), some (.int l3), some (.int l4)] [] h (fun v g => v = none ∧ g = h') := by
  unfold b138_39 at e
  refine xo_aload_nQ (w := l0) rfl rfl ?_
  refine xo_iconstV (x := 5) rfl (by decide) ?_
  refine xo_iload_n rfl rfl ?_
  refine xo_iload rfl rfl ?_
  refine d_nn e (fun v1 g e1 => ?_)
  subst g
  replace e := e1
  clear e1
  refine d_virtual_i (av := [.int (5 : Int32), .int l3, .int l4]) (rest := []) rfl ⟨by decide, by decide⟩ rfl rfl (by simp [xv_fit, va_rf_cat, cat_int, cat_long, cat_ref, cat_null, show xt_mx 132 = 4 from rfl, show xt_lg 132 = [] from rfl]) (by simp [xv_room, va_rf_cat, cat_int, cat_long, cat_ref, cat_null]) (fun x0 h1 e1 => t132 e1) e (fun v2 h e => ?_)
  refine xo_pop rfl (by first | rfl | exact va_rf_cat _) ?_
  exact t138_48 hk17 e
def b138_29 (k17 : Option Nat → Int32 → Int32 → Int32 → Int32 → xm Unit) (F : Nat) (l0 : Option Nat) (l1 : Int32) (l2 : Int32) (l3 : Int32) (l4 : Int32) : xm Unit := mb (nn l0) fun v1 => mb (vc 9 v1) fun _ => mb (m136 F v1 l3 l4) fun v2 => if v2 = 0 then b138_48 k17 F (some v1) l1 l2 l3 l4 else b138_39 k17 F (some v1) l1 l2 l3 l4
theorem t138_29 {sc : Nat × (Nat → Int32)} {F : Nat} {r : Unit} {h' : xv_H} {k17 : Option Nat → Int32 → Int32 → Int32 → Int32 → xm Unit} (hk17 : ∀ (l0 : Option Nat) (l1 : Int32) (l2 : Int32) (l3 : Int32) (l4 : Int32) (h : xv_H), k17 l0 l1 l2 l3 l4 h = some (r, h') → xx sc 138 17 [some (va_rf l0), some (.int l1), some (.int l2), some (.int l3), some (.int l4)] [] h (fun v g => v = none ∧ g = h')) {l0 : Option Nat} {l1 : Int32} {l2 : Int32} {l3 : Int32} {l4 : Int32} {h : xv_H} (e : b138_29 k17 F l0 l1 l2 l3 l4 h = some (r, h')) : xx sc 138 29 [some (va_rf l0), some (.int l1), some (.int l2), some (.int l3), some (.int l4)] [] h (fun v g => v = none ∧ g = h') := by
  unfold b138_29 at e
  refine xo_aload_nQ (w := l0) rfl rfl ?_
  refine xo_iload_n rfl rfl ?_
  refine xo_iload rfl rfl ?_
  refine d_nn e (fun v1 g e1 => ?_)
  subst g
  replace e := e1
  clear e1
  refine d_virtual_i (av := [.int l3, .int l4]) (rest := []) rfl ⟨by decide, by decide⟩ rfl rfl (by simp [xv_fit, va_rf_cat, cat_int, cat_long, cat_ref, cat_null, show xt_mx 136 = 5 from rfl, show xt_lg 136 = [] from rfl]) (by simp [xv_room, va_rf_cat, cat_int, cat_long, cat_ref, cat_null]) (fun x0 h1 e1 => t136 e1) e (fun v2 h e => ?_)
  refine d_if_eq rfl rfl e (fun _ e => ?_) (fun _ e => ?_)
  · exact t138_48 hk17 e
  · exact t138_39 hk17 e
def b138_23 (k17 : Option Nat → Int32 → Int32 → Int32 → Int32 → xm Unit) (F : Nat) (l0 : Option Nat) (l1 : Int32) (l2 : Int32) (l3 : Int32) (l4 : Int32) : xm Unit := if l4 = l2 then b138_48 k17 F l0 l1 l2 l3 l4 else b138_29 k17 F l0 l1 l2 l3 l4
theorem t138_23 {sc : Nat × (Nat → Int32)} {F : Nat} {r : Unit} {h' : xv_H} {k17 : Option Nat → Int32 → Int32 → Int32 → Int32 → xm Unit} (hk17 : ∀ (l0 : Option Nat) (l1 : Int32) (l2 : Int32) (l3 : Int32) (l4 : Int32) (h : xv_H), k17 l0 l1 l2 l3 l4 h = some (r, h') → xx sc 138 17 [some (va_rf l0), some (.int l1), some (.int l2), some (.int l3), some (.int l4)] [] h (fun v g => v = none ∧ g = h')) {l0 : Option Nat} {l1 : Int32} {l2 : Int32} {l3 : Int32} {l4 : Int32} {h : xv_H} (e : b138_23 k17 F l0 l1 l2 l3 l4 h = some (r, h')) : xx sc 138 23 [some (va_rf l0), some (.int l1), some (.int l2), some (.int l3), some (.int l4)] [] h (fun v g => v = none ∧ g = h') := by
  unfold b138_23 at e
  refine xo_iload rfl rfl ?_
  refine xo_iload_n rfl rfl ?_
  refine d_icmp_eq rfl rfl e (fun _ e => ?_) (fun _ e => ?_)
  · exact t138_48 hk17 e
  · exact t138_29 hk17 e
def b138_17 (F : Nat) : Nat → Option Nat → Int32 → Int32 → Int32 → Int32 → xm Unit
  | 0, _, _, _, _, _ => fun _ => none
  | f + 1, l0, l1, l2, l3, l4 => if (3 : Int32) ≤ l4 then b138_54 F l0 l1 else b138_23 (b138_17 F f) F l0 l1 l2 l3 l4
theorem t138_17 {sc : Nat × (Nat → Int32)} {F : Nat} {r : Unit} {h' : xv_H} : ∀ (f : Nat) (l0 : Option Nat) (l1 : Int32) (l2 : Int32) (l3 : Int32) (l4 : Int32) (h : xv_H), b138_17 F f l0 l1 l2 l3 l4 h = some (r, h') → xx sc 138 17 [some (va_rf l0), some (.int l1), some (.int l2), some (.int l3), some (.int l4)] [] h (fun v g => v = none ∧ g = h') := by
  intro f
  induction f with
  | zero => intro l0 l1 l2 l3 l4 h e; cases e
  | succ f ih =>
    intro l0 l1 l2 l3 l4 h e
    unfold b138_17 at e
    refine xo_iload rfl rfl ?_
    refine xo_iconstV (x := 3) rfl (by decide) ?_
    refine d_icmp_ge rfl rfl e (fun _ e => ?_) (fun _ e => ?_)
    · exact t138_54 e
    · exact t138_23 (fun a0 a1 a2 a3 a4 h e => ih a0 a1 a2 a3 a4 h e) e
def b138_0 (F : Nat) (l0 : Option Nat) (l1 : Int32) (l2 : Int32) : xm Unit := mb (nn l0) fun v1 => mb (gr 934 v1) fun v2 => mb (nn v2) fun v3 => mb (li v3 l1) fun v4 => mb (gr 934 v1) fun v5 => mb (nn v5) fun v6 => mb (si v6 l1 (0 : Int32)) fun _ => b138_17 F F (some v1) l1 l2 v4 (0 : Int32)
theorem t138_0 {sc : Nat × (Nat → Int32)} {F : Nat} {r : Unit} {h' : xv_H} {l0 : Option Nat} {l1 : Int32} {l2 : Int32} {d3 d4 : Option Value} {h : xv_H} (e : b138_0 F l0 l1 l2 h = some (r, h')) : xx sc 138 0 [some (va_rf l0), some (.int l1), some (.int l2), d3, d4] [] h (fun v g => v = none ∧ g = h') := by
  unfold b138_0 at e
  refine xo_aload_nQ (w := l0) rfl rfl ?_
  refine d_nn e (fun v1 g e1 => ?_)
  subst g
  replace e := e1
  clear e1
  refine d_getr rfl e (fun v2 e => ?_)
  refine xo_iload_n rfl rfl ?_
  refine d_nn e (fun v3 g e1 => ?_)
  subst g
  replace e := e1
  clear e1
  refine d_iald rfl e (fun v4 e => ?_)
  refine xo_istore_n rfl (Nat.le_of_ble_eq_true rfl) rfl ?_
  refine xo_aload_nQ (w := (some v1)) rfl rfl ?_
  refine d_getr rfl e (fun v5 e => ?_)
  refine xo_iload_n rfl rfl ?_
  refine xo_iconstV (x := 0) rfl (by decide) ?_
  refine d_nn e (fun v6 g e1 => ?_)
  subst g
  replace e := e1
  clear e1
  refine d_iast rfl e (fun h e => ?_)
  refine xo_iconstV (x := 0) rfl (by decide) ?_
  refine xo_istore rfl (Nat.le_of_ble_eq_true rfl) rfl ?_
  exact t138_17 F _ _ _ _ _ _ e
def m138 (F : Nat) (this : Nat) (p0 : Int32) (p1 : Int32) : xm Unit := b138_0 F (some this) p0 p1
theorem t138 {sc : Nat × (Nat → Int32)} {F : Nat} {this : Nat} {p0 : Int32} {p1 : Int32} {h : xv_H} {r : Unit} {h' : xv_H} (e : m138 F this p0 p1 h = some (r, h')) : xr sc 138 [.ref this, .int p0, .int p1] h (fun v g => v = none ∧ g = h') := by
  have e0 : xv_ent (xt_mx 138) [.ref this, .int p0, .int p1] = [some (va_rf (some this)), some (.int p0), some (.int p1), none, none] := by simp [xv_ent, xv_sl, va_rf_cat, cat_int, cat_long, cat_ref, cat_null, va_rf_some, show xt_mx 138 = 5 from rfl]
  unfold xr
  rw [e0]
  exact t138_0 e
-- CellTreeModel.pick(IIII)I
def b165_18 (F : Nat) (s0 : Int32) : xm Int32 := mr s0
theorem t165_18 {sc : Nat × (Nat → Int32)} {F : Nat} {r : Int32} {h' : xv_H} {s0 : Int32} {d0 d1 d2 d3 : Option Value} {h : xv_H} (e : b165_18 F s0 h = some (r, h')) : xx sc 165 18 [d0, d1, d2, d3] [.int s0] h (fun v g => v = some (.int r) ∧ g = h') := by
  unfold b165_18 at e
  exact d_iret rfl e
def b165_17 (F : Nat) (l3 : Int32) : xm Int32 := b165_18 F l3
theorem t165_17 {sc : Nat × (Nat → Int32)} {F : Nat} {r : Int32} {h' : xv_H} {l3 : Int32} {d0 d1 d2 : Option Value} {h : xv_H} (e : b165_17 F l3 h = some (r, h')) : xx sc 165 17 [d0, d1, d2, some (.int l3)] [] h (fun v g => v = some (.int r) ∧ g = h') := by
  unfold b165_17 at e
  refine xo_iload_n rfl rfl ?_
  exact t165_18 e
def b165_13 (F : Nat) (l2 : Int32) : xm Int32 := b165_18 F l2
theorem t165_13 {sc : Nat × (Nat → Int32)} {F : Nat} {r : Int32} {h' : xv_H} {l2 : Int32} {d0 d1 d3 : Option Value} {h : xv_H} (e : b165_13 F l2 h = some (r, h')) : xx sc 165 13 [d0, d1, some (.int l2), d3] [] h (fun v g => v = some (.int r) ∧ g = h') := by
  unfold b165_13 at e
  refine xo_iload_n rfl rfl ?_
  refine xo_goto rfl rfl ?_
  exact t165_18 e
def b165_8 (F : Nat) (l0 : Int32) (l2 : Int32) (l3 : Int32) : xm Int32 := if ¬ l0 = (1 : Int32) then b165_17 F l3 else b165_13 F l2
theorem t165_8 {sc : Nat × (Nat → Int32)} {F : Nat} {r : Int32} {h' : xv_H} {l0 : Int32} {l2 : Int32} {l3 : Int32} {d1 : Option Value} {h : xv_H} (e : b165_8 F l0 l2 l3 h = some (r, h')) : xx sc 165 8 [some (.int l0), d1, some (.int l2), some (.int l3)] [] h (fun v g => v = some (.int r) ∧ g = h') := by
  unfold b165_8 at e
  refine xo_iload_n rfl rfl ?_
  refine xo_iconstV (x := 1) rfl (by decide) ?_
  refine d_icmp_ne rfl rfl e (fun _ e => ?_) (fun _ e => ?_)
  · exact t165_17 e
  · exact t165_13 e
def b165_4 (F : Nat) (l1 : Int32) : xm Int32 := b165_18 F l1
theorem t165_4 {sc : Nat × (Nat → Int32)} {F : Nat} {r : Int32} {h' : xv_H} {l1 : Int32} {d0 d2 d3 : Option Value} {h : xv_H} (e : b165_4 F l1 h = some (r, h')) : xx sc 165 4 [d0, some (.int l1), d2, d3] [] h (fun v g => v = some (.int r) ∧ g = h') := by
  unfold b165_4 at e
  refine xo_iload_n rfl rfl ?_
  refine xo_goto rfl rfl ?_
  exact t165_18 e
def b165_0 (F : Nat) (l0 : Int32) (l1 : Int32) (l2 : Int32) (l3 : Int32) : xm Int32 := if ¬ l0 = 0 then b165_8 F l0 l2 l3 else b165_4 F l1
theorem t165_0 {sc : Nat × (Nat → Int32)} {F : Nat} {r : Int32} {h' : xv_H} {l0 : Int32} {l1 : Int32} {l2 : Int32} {l3 : Int32} {h : xv_H} (e : b165_0 F l0 l1 l2 l3 h = some (r, h')) : xx sc 165 0 [some (.int l0), some (.int l1), some (.int l2), some (.int l3)] [] h (fun v g => v = some (.int r) ∧ g = h') := by
  unfold b165_0 at e
  refine xo_iload_n rfl rfl ?_
  refine d_if_ne rfl rfl e (fun _ e => ?_) (fun _ e => ?_)
  · exact t165_8 e
  · exact t165_4 e
def m165 (F : Nat) (p0 : Int32) (p1 : Int32) (p2 : Int32) (p3 : Int32) : xm Int32 := b165_0 F p0 p1 p2 p3
theorem t165 {sc : Nat × (Nat → Int32)} {F : Nat} {p0 : Int32} {p1 : Int32} {p2 : Int32} {p3 : Int32} {h : xv_H} {r : Int32} {h' : xv_H} (e : m165 F p0 p1 p2 p3 h = some (r, h')) : xr sc 165 [.int p0, .int p1, .int p2, .int p3] h (fun v g => v = some (.int r) ∧ g = h') := by
  have e0 : xv_ent (xt_mx 165) [.int p0, .int p1, .int p2, .int p3] = [some (.int p0), some (.int p1), some (.int p2), some (.int p3)] := by simp [xv_ent, xv_sl, va_rf_cat, cat_int, cat_long, cat_ref, cat_null, va_rf_some, show xt_mx 165 = 4 from rfl]
  unfold xr
  rw [e0]
  exact t165_0 e
-- CellTreeModel.done(I)V
def b166_19 (F : Nat) (s0 : Int32) (s1 : Int32) (s2 : Option Nat) : xm Unit := mb (nn s2) fun v1 => mb (si v1 s1 s0) fun _ => mr ()
theorem t166_19 {sc : Nat × (Nat → Int32)} {F : Nat} {r : Unit} {h' : xv_H} {s0 : Int32} {s1 : Int32} {s2 : Option Nat} {d0 d1 : Option Value} {h : xv_H} (e : b166_19 F s0 s1 s2 h = some (r, h')) : xx sc 166 19 [d0, d1] [.int s0, .int s1, va_rf s2] h (fun v g => v = none ∧ g = h') := by
  unfold b166_19 at e
  refine d_nn e (fun v1 g e1 => ?_)
  subst g
  replace e := e1
  clear e1
  refine d_iast rfl e (fun h e => ?_)
  exact d_ret rfl e
def b166_18 (F : Nat) (s0 : Int32) (s1 : Option Nat) : xm Unit := b166_19 F (2 : Int32) s0 s1
theorem t166_18 {sc : Nat × (Nat → Int32)} {F : Nat} {r : Unit} {h' : xv_H} {s0 : Int32} {s1 : Option Nat} {d0 d1 : Option Value} {h : xv_H} (e : b166_18 F s0 s1 h = some (r, h')) : xx sc 166 18 [d0, d1] [.int s0, va_rf s1] h (fun v g => v = none ∧ g = h') := by
  unfold b166_18 at e
  refine xo_iconstV (x := 2) rfl (by decide) ?_
  exact t166_19 e
def b166_14 (F : Nat) (s0 : Int32) (s1 : Option Nat) : xm Unit := b166_19 F (3 : Int32) s0 s1
theorem t166_14 {sc : Nat × (Nat → Int32)} {F : Nat} {r : Unit} {h' : xv_H} {s0 : Int32} {s1 : Option Nat} {d0 d1 : Option Value} {h : xv_H} (e : b166_14 F s0 s1 h = some (r, h')) : xx sc 166 14 [d0, d1] [.int s0, va_rf s1] h (fun v g => v = none ∧ g = h') := by
  unfold b166_14 at e
  refine xo_iconstV (x := 3) rfl (by decide) ?_
  refine xo_goto rfl rfl ?_
  exact t166_19 e
def b166_0 (F : Nat) (l0 : Option Nat) (l1 : Int32) : xm Unit := mb (nn l0) fun v1 => mb (gr 926 v1) fun v2 => mb (gr 933 v1) fun v3 => mb (nn v3) fun v4 => mb (lb v4 l1) fun v5 => if v5 = 0 then b166_18 F l1 v2 else b166_14 F l1 v2
theorem t166_0 {sc : Nat × (Nat → Int32)} {F : Nat} {r : Unit} {h' : xv_H} {l0 : Option Nat} {l1 : Int32} {h : xv_H} (e : b166_0 F l0 l1 h = some (r, h')) : xx sc 166 0 [some (va_rf l0), some (.int l1)] [] h (fun v g => v = none ∧ g = h') := by
  unfold b166_0 at e
  refine xo_aload_nQ (w := l0) rfl rfl ?_
  refine d_nn e (fun v1 g e1 => ?_)
  subst g
  replace e := e1
  clear e1
  refine d_getr rfl e (fun v2 e => ?_)
  refine xo_iload_n rfl rfl ?_
  refine xo_aload_nQ (w := (some v1)) rfl rfl ?_
  refine d_getr rfl e (fun v3 e => ?_)
  refine xo_iload_n rfl rfl ?_
  refine d_nn e (fun v4 g e1 => ?_)
  subst g
  replace e := e1
  clear e1
  refine d_bald rfl e (fun v5 e => ?_)
  refine d_if_eq rfl rfl e (fun _ e => ?_) (fun _ e => ?_)
  · exact t166_18 e
  · exact t166_14 e
def m166 (F : Nat) (this : Nat) (p0 : Int32) : xm Unit := b166_0 F (some this) p0
theorem t166 {sc : Nat × (Nat → Int32)} {F : Nat} {this : Nat} {p0 : Int32} {h : xv_H} {r : Unit} {h' : xv_H} (e : m166 F this p0 h = some (r, h')) : xr sc 166 [.ref this, .int p0] h (fun v g => v = none ∧ g = h') := by
  have e0 : xv_ent (xt_mx 166) [.ref this, .int p0] = [some (va_rf (some this)), some (.int p0)] := by simp [xv_ent, xv_sl, va_rf_cat, cat_int, cat_long, cat_ref, cat_null, va_rf_some, show xt_mx 166 = 2 from rfl]
  unfold xr
  rw [e0]
  exact t166_0 e
-- CellTreeModel.collect(IIJIII)V
def b164_257 (F : Nat) : xm Unit := mr ()
theorem t164_257 {sc : Nat × (Nat → Int32)} {F : Nat} {r : Unit} {h' : xv_H} {d0 d1 d2 d3 d4 d5 d6 d7 d8 : Option Value} {h : xv_H} (e : b164_257 F h = some (r, h')) : xx sc 164 257 [d0, d1, d2, d3, d4, d5, d6, d7, d8] [] h (fun v g => v = none ∧ g = h') := by
  unfold b164_257 at e
  exact d_ret rfl e
def b164_245 (F : Nat) (l0 : Option Nat) (l1 : Int32) : xm Unit := mb (nn l0) fun v1 => mb (gr 939 v1) fun v2 => mb (nn v2) fun v3 => mb (li v3 l1) fun v4 => mb (vc 9 v1) fun _ => mb (m160 F v1 l1 v4 (2 : Int32)) fun _ => b164_257 F
theorem t164_245 {sc : Nat × (Nat → Int32)} {F : Nat} {r : Unit} {h' : xv_H} {l0 : Option Nat} {l1 : Int32} {d2 d3 d4 d5 d6 d7 d8 : Option Value} {h : xv_H} (e : b164_245 F l0 l1 h = some (r, h')) : xx sc 164 245 [some (va_rf l0), some (.int l1), d2, d3, d4, d5, d6, d7, d8] [] h (fun v g => v = none ∧ g = h') := by
  unfold b164_245 at e
  refine xo_aload_nQ (w := l0) rfl rfl ?_
  refine xo_iload_n rfl rfl ?_
  refine xo_aload_nQ (w := l0) rfl rfl ?_
  refine d_nn e (fun v1 g e1 => ?_)
  subst g
  replace e := e1
  clear e1
  refine d_getr rfl e (fun v2 e => ?_)
  refine xo_iload_n rfl rfl ?_
  refine d_nn e (fun v3 g e1 => ?_)
  subst g
  replace e := e1
  clear e1
  refine d_iald rfl e (fun v4 e => ?_)
  refine xo_iconstV (x := 2) rfl (by decide) ?_
  refine d_virtual_v (av := [.int l1, .int v4, .int (2 : Int32)]) (rest := []) rfl ⟨by decide, by decide⟩ rfl rfl (by simp [xv_fit, va_rf_cat, cat_int, cat_long, cat_ref, cat_null, show xt_mx 160 = 4 from rfl, show xt_lg 160 = [] from rfl]) (by simp [xv_room, va_rf_cat, cat_int, cat_long, cat_ref, cat_null]) (fun x0 h1 e1 => t160 e1) e (fun _ h e => ?_)
  exact t164_257 e
def b164_206 (k195 : Option Nat → Int32 → Int32 → xm Unit) (F : Nat) (l0 : Option Nat) (l1 : Int32) (l8 : Int32) : xm Unit := mb (nn l0) fun v1 => mb (gr 940 v1) fun v2 => mb (nn v2) fun v3 => mb (li v3 (((6 : Int32) * l1) + l8)) fun v4 => mb (gr 941 v1) fun v5 => mb (nn v5) fun v6 => mb (li v6 (((6 : Int32) * l1) + l8)) fun v7 => mb (vc 9 v1) fun _ => mb (m156 F v1 (2 : Int32) v4 v7 (0 : Int64) (0 : Int32) (0 : Int32) (0 : Int32)) fun _ => k195 (some v1) l1 (l8 + (1 : Int32))
theorem t164_206 {sc : Nat × (Nat → Int32)} {F : Nat} {r : Unit} {h' : xv_H} {k195 : Option Nat → Int32 → Int32 → xm Unit} (hk195 : ∀ (l0 : Option Nat) (l1 : Int32) (l8 : Int32) (d2 d3 d4 d5 d6 d7 : Option Value) (h : xv_H), k195 l0 l1 l8 h = some (r, h') → xx sc 164 195 [some (va_rf l0), some (.int l1), d2, d3, d4, d5, d6, d7, some (.int l8)] [] h (fun v g => v = none ∧ g = h')) {l0 : Option Nat} {l1 : Int32} {l8 : Int32} {d2 d3 d4 d5 d6 d7 : Option Value} {h : xv_H} (e : b164_206 k195 F l0 l1 l8 h = some (r, h')) : xx sc 164 206 [some (va_rf l0), some (.int l1), d2, d3, d4, d5, d6, d7, some (.int l8)] [] h (fun v g => v = none ∧ g = h') := by
  unfold b164_206 at e
  refine xo_aload_nQ (w := l0) rfl rfl ?_
  refine xo_iconstV (x := 2) rfl (by decide) ?_
  refine xo_aload_nQ (w := l0) rfl rfl ?_
  refine d_nn e (fun v1 g e1 => ?_)
  subst g
  replace e := e1
  clear e1
  refine d_getr rfl e (fun v2 e => ?_)
  refine xo_bipushV (x := 6) rfl (by decide) ?_
  refine xo_iload_n rfl rfl ?_
  refine xo_imul rfl ?_
  refine xo_iload rfl rfl ?_
  refine xo_iadd rfl ?_
  refine d_nn e (fun v3 g e1 => ?_)
  subst g
  replace e := e1
  clear e1
  refine d_iald rfl e (fun v4 e => ?_)
  refine xo_aload_nQ (w := (some v1)) rfl rfl ?_
  refine d_getr rfl e (fun v5 e => ?_)
  refine xo_bipushV (x := 6) rfl (by decide) ?_
  refine xo_iload_n rfl rfl ?_
  refine xo_imul rfl ?_
  refine xo_iload rfl rfl ?_
  refine xo_iadd rfl ?_
  refine d_nn e (fun v6 g e1 => ?_)
  subst g
  replace e := e1
  clear e1
  refine d_iald rfl e (fun v7 e => ?_)
  refine xo_lconstV (u := 0) rfl (by decide) ?_
  refine xo_iconstV (x := 0) rfl (by decide) ?_
  refine xo_iconstV (x := 0) rfl (by decide) ?_
  refine xo_iconstV (x := 0) rfl (by decide) ?_
  refine d_virtual_v (av := [.int (2 : Int32), .int v4, .int v7, .long (0 : Int64), .int (0 : Int32), .int (0 : Int32), .int (0 : Int32)]) (rest := []) rfl ⟨by decide, by decide⟩ rfl rfl (by simp [xv_fit, va_rf_cat, cat_int, cat_long, cat_ref, cat_null, show xt_mx 156 = 9 from rfl, show xt_lg 156 = [4] from rfl]) (by simp [xv_room, va_rf_cat, cat_int, cat_long, cat_ref, cat_null]) (fun x0 h1 e1 => t156 e1) e (fun _ h e => ?_)
  refine xo_iincV (z := 1) rfl (by decide) rfl (Nat.le_of_ble_eq_true rfl) rfl ?_
  refine xo_goto rfl rfl ?_
  exact hk195 _ _ _ _ _ _ _ _ _ _ e
def b164_195 (F : Nat) : Nat → Option Nat → Int32 → Int32 → xm Unit
  | 0, _, _, _ => fun _ => none
  | f + 1, l0, l1, l8 => mb (nn l0) fun v1 => mb (gr 939 v1) fun v2 => mb (nn v2) fun v3 => mb (li v3 l1) fun v4 => if v4 ≤ l8 then b164_245 F (some v1) l1 else b164_206 (b164_195 F f) F (some v1) l1 l8
theorem t164_195 {sc : Nat × (Nat → Int32)} {F : Nat} {r : Unit} {h' : xv_H} : ∀ (f : Nat) (l0 : Option Nat) (l1 : Int32) (l8 : Int32) (d2 d3 d4 d5 d6 d7 : Option Value) (h : xv_H), b164_195 F f l0 l1 l8 h = some (r, h') → xx sc 164 195 [some (va_rf l0), some (.int l1), d2, d3, d4, d5, d6, d7, some (.int l8)] [] h (fun v g => v = none ∧ g = h') := by
  intro f
  induction f with
  | zero => intro l0 l1 l8 d2 d3 d4 d5 d6 d7 h e; cases e
  | succ f ih =>
    intro l0 l1 l8 d2 d3 d4 d5 d6 d7 h e
    unfold b164_195 at e
    refine xo_iload rfl rfl ?_
    refine xo_aload_nQ (w := l0) rfl rfl ?_
    refine d_nn e (fun v1 g e1 => ?_)
    subst g
    replace e := e1
    clear e1
    refine d_getr rfl e (fun v2 e => ?_)
    refine xo_iload_n rfl rfl ?_
    refine d_nn e (fun v3 g e1 => ?_)
    subst g
    replace e := e1
    clear e1
    refine d_iald rfl e (fun v4 e => ?_)
    refine d_icmp_ge rfl rfl e (fun _ e => ?_) (fun _ e => ?_)
    · exact t164_245 e
    · exact t164_206 (fun a0 a1 a2 a3 a4 a5 a6 a7 a8 h e => ih a0 a1 a2 a3 a4 a5 a6 a7 a8 h e) e
def b164_192 (F : Nat) (l0 : Option Nat) (l1 : Int32) : xm Unit := b164_195 F F l0 l1 (0 : Int32)
theorem t164_192 {sc : Nat × (Nat → Int32)} {F : Nat} {r : Unit} {h' : xv_H} {l0 : Option Nat} {l1 : Int32} {d2 d3 d4 d5 d6 d7 d8 : Option Value} {h : xv_H} (e : b164_192 F l0 l1 h = some (r, h')) : xx sc 164 192 [some (va_rf l0), some (.int l1), d2, d3, d4, d5, d6, d7, d8] [] h (fun v g => v = none ∧ g = h') := by
  unfold b164_192 at e
  refine xo_iconstV (x := 0) rfl (by decide) ?_
  refine xo_istore rfl (Nat.le_of_ble_eq_true rfl) rfl ?_
  exact t164_195 F _ _ _ _ _ _ _ _ _ _ e
def b164_184 (F : Nat) (l0 : Option Nat) (l1 : Int32) : xm Unit := mb (nn l0) fun v1 => mb (vc 9 v1) fun _ => mb (m166 F v1 l1) fun _ => b164_257 F
theorem t164_184 {sc : Nat × (Nat → Int32)} {F : Nat} {r : Unit} {h' : xv_H} {l0 : Option Nat} {l1 : Int32} {d2 d3 d4 d5 d6 d7 d8 : Option Value} {h : xv_H} (e : b164_184 F l0 l1 h = some (r, h')) : xx sc 164 184 [some (va_rf l0), some (.int l1), d2, d3, d4, d5, d6, d7, d8] [] h (fun v g => v = none ∧ g = h') := by
  unfold b164_184 at e
  refine xo_aload_nQ (w := l0) rfl rfl ?_
  refine xo_iload_n rfl rfl ?_
  refine d_nn e (fun v1 g e1 => ?_)
  subst g
  replace e := e1
  clear e1
  refine d_virtual_v (av := [.int l1]) (rest := []) rfl ⟨by decide, by decide⟩ rfl rfl (by simp [xv_fit, va_rf_cat, cat_int, cat_long, cat_ref, cat_null, show xt_mx 166 = 2 from rfl, show xt_lg 166 = [] from rfl]) (by simp [xv_room, va_rf_cat, cat_int, cat_long, cat_ref, cat_null]) (fun x0 h1 e1 => t166 e1) e (fun _ h e => ?_)
  refine xo_goto rfl rfl ?_
  exact t164_257 e
def b164_174 (F : Nat) (l0 : Option Nat) (l1 : Int32) : xm Unit := mb (nn l0) fun v1 => mb (gr 939 v1) fun v2 => mb (nn v2) fun v3 => mb (li v3 l1) fun v4 => if ¬ v4 = (1 : Int32) then b164_192 F (some v1) l1 else b164_184 F (some v1) l1
theorem t164_174 {sc : Nat × (Nat → Int32)} {F : Nat} {r : Unit} {h' : xv_H} {l0 : Option Nat} {l1 : Int32} {d2 d3 d4 d5 d6 d7 d8 : Option Value} {h : xv_H} (e : b164_174 F l0 l1 h = some (r, h')) : xx sc 164 174 [some (va_rf l0), some (.int l1), d2, d3, d4, d5, d6, d7, d8] [] h (fun v g => v = none ∧ g = h') := by
  unfold b164_174 at e
  refine xo_aload_nQ (w := l0) rfl rfl ?_
  refine d_nn e (fun v1 g e1 => ?_)
  subst g
  replace e := e1
  clear e1
  refine d_getr rfl e (fun v2 e => ?_)
  refine xo_iload_n rfl rfl ?_
  refine d_nn e (fun v3 g e1 => ?_)
  subst g
  replace e := e1
  clear e1
  refine d_iald rfl e (fun v4 e => ?_)
  refine xo_iconstV (x := 1) rfl (by decide) ?_
  refine d_icmp_ne rfl rfl e (fun _ e => ?_) (fun _ e => ?_)
  · exact t164_192 e
  · exact t164_184 e
def b164_156 (F : Nat) (l0 : Option Nat) (l1 : Int32) (l3 : Int64) : xm Unit := mb (nn l0) fun v1 => mb (gr 928 v1) fun v2 => mb (m154 F l3) fun v3 => mb (nn v2) fun v4 => mb (si v4 l1 v3) fun _ => mb (vc 9 v1) fun _ => mb (m142 F v1 l1) fun _ => b164_257 F
theorem t164_156 {sc : Nat × (Nat → Int32)} {F : Nat} {r : Unit} {h' : xv_H} {l0 : Option Nat} {l1 : Int32} {l3 : Int64} {d2 d4 d5 d6 d7 d8 : Option Value} {h : xv_H} (e : b164_156 F l0 l1 l3 h = some (r, h')) : xx sc 164 156 [some (va_rf l0), some (.int l1), d2, some (.long l3), d4, d5, d6, d7, d8] [] h (fun v g => v = none ∧ g = h') := by
  unfold b164_156 at e
  refine xo_aload_nQ (w := l0) rfl rfl ?_
  refine d_nn e (fun v1 g e1 => ?_)
  subst g
  replace e := e1
  clear e1
  refine d_getr rfl e (fun v2 e => ?_)
  refine xo_iload_n rfl rfl ?_
  refine xo_lload_n rfl rfl ?_
  refine d_static_i (av := [.long l3]) (rest := [.int l1, va_rf v2]) rfl ⟨by decide, by decide, by decide⟩ rfl rfl (by simp [xv_fit, va_rf_cat, cat_int, cat_long, cat_ref, cat_null, show xt_mx 154 = 2 from rfl, show xt_lg 154 = [0] from rfl]) (by simp [xv_room, va_rf_cat, cat_int, cat_long, cat_ref, cat_null]) (fun x0 h1 e1 => t154 e1) e (fun v3 h e => ?_)
  refine d_nn e (fun v4 g e1 => ?_)
  subst g
  replace e := e1
  clear e1
  refine d_iast rfl e (fun h e => ?_)
  refine xo_aload_nQ (w := (some v1)) rfl rfl ?_
  refine xo_iload_n rfl rfl ?_
  refine d_virtual_v (av := [.int l1]) (rest := []) rfl ⟨by decide, by decide⟩ rfl rfl (by simp [xv_fit, va_rf_cat, cat_int, cat_long, cat_ref, cat_null, show xt_mx 142 = 2 from rfl, show xt_lg 142 = [] from rfl]) (by simp [xv_room, va_rf_cat, cat_int, cat_long, cat_ref, cat_null]) (fun x0 h1 e1 => t142 e1) e (fun _ h e => ?_)
  refine xo_goto rfl rfl ?_
  exact t164_257 e
def b164_143 (F : Nat) (l0 : Option Nat) (l1 : Int32) (l3 : Int64) : xm Unit := mb (m154 F l3) fun v1 => mb (nn l0) fun v2 => mb (gr 930 v2) fun v3 => mb (nn v3) fun v4 => mb (li v4 l1) fun v5 => if v5 < v1 then b164_174 F (some v2) l1 else b164_156 F (some v2) l1 l3
theorem t164_143 {sc : Nat × (Nat → Int32)} {F : Nat} {r : Unit} {h' : xv_H} {l0 : Option Nat} {l1 : Int32} {l3 : Int64} {d2 d4 d5 d6 d7 d8 : Option Value} {h : xv_H} (e : b164_143 F l0 l1 l3 h = some (r, h')) : xx sc 164 143 [some (va_rf l0), some (.int l1), d2, some (.long l3), d4, d5, d6, d7, d8] [] h (fun v g => v = none ∧ g = h') := by
  unfold b164_143 at e
  refine xo_lload_n rfl rfl ?_
  refine d_static_i (av := [.long l3]) (rest := []) rfl ⟨by decide, by decide, by decide⟩ rfl rfl (by simp [xv_fit, va_rf_cat, cat_int, cat_long, cat_ref, cat_null, show xt_mx 154 = 2 from rfl, show xt_lg 154 = [0] from rfl]) (by simp [xv_room, va_rf_cat, cat_int, cat_long, cat_ref, cat_null]) (fun x0 h1 e1 => t154 e1) e (fun v1 h e => ?_)
  refine xo_aload_nQ (w := l0) rfl rfl ?_
  refine d_nn e (fun v2 g e1 => ?_)
  subst g
  replace e := e1
  clear e1
  refine d_getr rfl e (fun v3 e => ?_)
  refine xo_iload_n rfl rfl ?_
  refine d_nn e (fun v4 g e1 => ?_)
  subst g
  replace e := e1
  clear e1
  refine d_iald rfl e (fun v5 e => ?_)
  refine d_icmp_gt rfl rfl e (fun _ e => ?_) (fun _ e => ?_)
  · exact t164_174 e
  · exact t164_156 e
def b164_137 (k77 : Option Nat → Int32 → Int64 → Int32 → Int32 → Int32 → Int32 → xm Unit) (F : Nat) (l0 : Option Nat) (l1 : Int32) (l3 : Int64) (l5 : Int32) (l6 : Int32) (l7 : Int32) (l8 : Int32) : xm Unit := k77 l0 l1 l3 l5 l6 l7 (l8 + (1 : Int32))
theorem t164_137 {sc : Nat × (Nat → Int32)} {F : Nat} {r : Unit} {h' : xv_H} {k77 : Option Nat → Int32 → Int64 → Int32 → Int32 → Int32 → Int32 → xm Unit} (hk77 : ∀ (l0 : Option Nat) (l1 : Int32) (l3 : Int64) (l5 : Int32) (l6 : Int32) (l7 : Int32) (l8 : Int32) (d2 d4 : Option Value) (h : xv_H), k77 l0 l1 l3 l5 l6 l7 l8 h = some (r, h') → xx sc 164 77 [some (va_rf l0), some (.int l1), d2, some (.long l3), d4, some (.int l5), some (.int l6), some (.int l7), some (.int l8)] [] h (fun v g => v = none ∧ g = h')) {l0 : Option Nat} {l1 : Int32} {l3 : Int64} {l5 : Int32} {l6 : Int32} {l7 : Int32} {l8 : Int32} {d2 d4 : Option Value} {h : xv_H} (e : b164_137 k77 F l0 l1 l3 l5 l6 l7 l8 h = some (r, h')) : xx sc 164 137 [some (va_rf l0), some (.int l1), d2, some (.long l3), d4, some (.int l5), some (.int l6), some (.int l7), some (.int l8)] [] h (fun v g => v = none ∧ g = h') := by
  unfold b164_137 at e
  refine xo_iincV (z := 1) rfl (by decide) rfl (Nat.le_of_ble_eq_true rfl) rfl ?_
  refine xo_goto rfl rfl ?_
  exact hk77 _ _ _ _ _ _ _ _ _ _ e
def b164_110 (k77 : Option Nat → Int32 → Int64 → Int32 → Int32 → Int32 → Int32 → xm Unit) (F : Nat) (l0 : Option Nat) (l1 : Int32) (l3 : Int64) (l5 : Int32) (l6 : Int32) (l7 : Int32) (l8 : Int32) : xm Unit := mb (nn l0) fun v1 => mb (gr 933 v1) fun v2 => mb (nn v2) fun v3 => mb (sb v3 l1 (1 : Int32)) fun _ => mb (gr 932 v1) fun v4 => mb (nn v4) fun v5 => mb (li v5 l1) fun v6 => mb (m165 F l8 l5 l6 l7) fun v7 => mb (si v5 l1 (v6 + v7)) fun _ => b164_137 k77 F (some v1) l1 l3 l5 l6 l7 l8
theorem t164_110 {sc : Nat × (Nat → Int32)} {F : Nat} {r : Unit} {h' : xv_H} {k77 : Option Nat → Int32 → Int64 → Int32 → Int32 → Int32 → Int32 → xm Unit} (hk77 : ∀ (l0 : Option Nat) (l1 : Int32) (l3 : Int64) (l5 : Int32) (l6 : Int32) (l7 : Int32) (l8 : Int32) (d2 d4 : Option Value) (h : xv_H), k77 l0 l1 l3 l5 l6 l7 l8 h = some (r, h') → xx sc 164 77 [some (va_rf l0), some (.int l1), d2, some (.long l3), d4, some (.int l5), some (.int l6), some (.int l7), some (.int l8)] [] h (fun v g => v = none ∧ g = h')) {l0 : Option Nat} {l1 : Int32} {l3 : Int64} {l5 : Int32} {l6 : Int32} {l7 : Int32} {l8 : Int32} {d2 d4 : Option Value} {h : xv_H} (e : b164_110 k77 F l0 l1 l3 l5 l6 l7 l8 h = some (r, h')) : xx sc 164 110 [some (va_rf l0), some (.int l1), d2, some (.long l3), d4, some (.int l5), some (.int l6), some (.int l7), some (.int l8)] [] h (fun v g => v = none ∧ g = h') := by
  unfold b164_110 at e
  refine xo_aload_nQ (w := l0) rfl rfl ?_
  refine d_nn e (fun v1 g e1 => ?_)
  subst g
  replace e := e1
  clear e1
  refine d_getr rfl e (fun v2 e => ?_)
  refine xo_iload_n rfl rfl ?_
  refine xo_iconstV (x := 1) rfl (by decide) ?_
  refine d_nn e (fun v3 g e1 => ?_)
  subst g
  replace e := e1
  clear e1
  refine d_bast rfl e (fun h e => ?_)
  refine xo_aload_nQ (w := (some v1)) rfl rfl ?_
  refine d_getr rfl e (fun v4 e => ?_)
  refine xo_iload_n rfl rfl ?_
  refine xo_dup2 rfl (by first | rfl | exact va_rf_cat _) (by first | rfl | exact va_rf_cat _) ?_
  refine d_nn e (fun v5 g e1 => ?_)
  subst g
  replace e := e1
  clear e1
  refine d_iald rfl e (fun v6 e => ?_)
  refine xo_iload rfl rfl ?_
  refine xo_iload rfl rfl ?_
  refine xo_iload rfl rfl ?_
  refine xo_iload rfl rfl ?_
  refine d_static_i (av := [.int l8, .int l5, .int l6, .int l7]) (rest := [.int v6, .int l1, va_rf (some v5)]) rfl ⟨by decide, by decide, by decide⟩ rfl rfl (by simp [xv_fit, va_rf_cat, cat_int, cat_long, cat_ref, cat_null, show xt_mx 165 = 4 from rfl, show xt_lg 165 = [] from rfl]) (by simp [xv_room, va_rf_cat, cat_int, cat_long, cat_ref, cat_null]) (fun x0 h1 e1 => t165 e1) e (fun v7 h e => ?_)
  refine xo_iadd rfl ?_
  refine d_iast rfl e (fun h e => ?_)
  exact t164_137 hk77 e
def b164_86 (k77 : Option Nat → Int32 → Int64 → Int32 → Int32 → Int32 → Int32 → xm Unit) (F : Nat) (l0 : Option Nat) (l1 : Int32) (l3 : Int64) (l5 : Int32) (l6 : Int32) (l7 : Int32) (l8 : Int32) : xm Unit := mb (m148 F l3 l8) fun v1 => mb (nn l0) fun v2 => mb (gr 929 v2) fun v3 => mb (nn v3) fun v4 => mb (li v4 l1) fun v5 => mb (gr 930 v2) fun v6 => mb (nn v6) fun v7 => mb (li v7 l1) fun v8 => mb (m127 F v1 v5 v8) fun v9 => if v9 = 0 then b164_137 k77 F (some v2) l1 l3 l5 l6 l7 l8 else b164_110 k77 F (some v2) l1 l3 l5 l6 l7 l8
theorem t164_86 {sc : Nat × (Nat → Int32)} {F : Nat} {r : Unit} {h' : xv_H} {k77 : Option Nat → Int32 → Int64 → Int32 → Int32 → Int32 → Int32 → xm Unit} (hk77 : ∀ (l0 : Option Nat) (l1 : Int32) (l3 : Int64) (l5 : Int32) (l6 : Int32) (l7 : Int32) (l8 : Int32) (d2 d4 : Option Value) (h : xv_H), k77 l0 l1 l3 l5 l6 l7 l8 h = some (r, h') → xx sc 164 77 [some (va_rf l0), some (.int l1), d2, some (.long l3), d4, some (.int l5), some (.int l6), some (.int l7), some (.int l8)] [] h (fun v g => v = none ∧ g = h')) {l0 : Option Nat} {l1 : Int32} {l3 : Int64} {l5 : Int32} {l6 : Int32} {l7 : Int32} {l8 : Int32} {d2 d4 : Option Value} {h : xv_H} (e : b164_86 k77 F l0 l1 l3 l5 l6 l7 l8 h = some (r, h')) : xx sc 164 86 [some (va_rf l0), some (.int l1), d2, some (.long l3), d4, some (.int l5), some (.int l6), some (.int l7), some (.int l8)] [] h (fun v g => v = none ∧ g = h') := by
  unfold b164_86 at e
  refine xo_lload_n rfl rfl ?_
  refine xo_iload rfl rfl ?_
  refine d_static_i (av := [.long l3, .int l8]) (rest := []) rfl ⟨by decide, by decide, by decide⟩ rfl rfl (by simp [xv_fit, va_rf_cat, cat_int, cat_long, cat_ref, cat_null, show xt_mx 148 = 3 from rfl, show xt_lg 148 = [0] from rfl]) (by simp [xv_room, va_rf_cat, cat_int, cat_long, cat_ref, cat_null]) (fun x0 h1 e1 => t148 e1) e (fun v1 h e => ?_)
  refine xo_aload_nQ (w := l0) rfl rfl ?_
  refine d_nn e (fun v2 g e1 => ?_)
  subst g
  replace e := e1
  clear e1
  refine d_getr rfl e (fun v3 e => ?_)
  refine xo_iload_n rfl rfl ?_
  refine d_nn e (fun v4 g e1 => ?_)
  subst g
  replace e := e1
  clear e1
  refine d_iald rfl e (fun v5 e => ?_)
  refine xo_aload_nQ (w := (some v2)) rfl rfl ?_
  refine d_getr rfl e (fun v6 e => ?_)
  refine xo_iload_n rfl rfl ?_
  refine d_nn e (fun v7 g e1 => ?_)
  subst g
  replace e := e1
  clear e1
  refine d_iald rfl e (fun v8 e => ?_)
  refine d_static_i (av := [.int v1, .int v5, .int v8]) (rest := []) rfl ⟨by decide, by decide, by decide⟩ rfl rfl (by simp [xv_fit, va_rf_cat, cat_int, cat_long, cat_ref, cat_null, show xt_mx 127 = 3 from rfl, show xt_lg 127 = [] from rfl]) (by simp [xv_room, va_rf_cat, cat_int, cat_long, cat_ref, cat_null]) (fun x0 h1 e1 => t127 e1) e (fun v9 h e => ?_)
  refine d_if_eq rfl rfl e (fun _ e => ?_) (fun _ e => ?_)
  · exact t164_137 hk77 e
  · exact t164_110 hk77 e
def b164_77 (F : Nat) : Nat → Option Nat → Int32 → Int64 → Int32 → Int32 → Int32 → Int32 → xm Unit
  | 0, _, _, _, _, _, _, _ => fun _ => none
  | f + 1, l0, l1, l3, l5, l6, l7, l8 => mb (m146 F l3) fun v1 => if v1 ≤ l8 then b164_143 F l0 l1 l3 else b164_86 (b164_77 F f) F l0 l1 l3 l5 l6 l7 l8
theorem t164_77 {sc : Nat × (Nat → Int32)} {F : Nat} {r : Unit} {h' : xv_H} : ∀ (f : Nat) (l0 : Option Nat) (l1 : Int32) (l3 : Int64) (l5 : Int32) (l6 : Int32) (l7 : Int32) (l8 : Int32) (d2 d4 : Option Value) (h : xv_H), b164_77 F f l0 l1 l3 l5 l6 l7 l8 h = some (r, h') → xx sc 164 77 [some (va_rf l0), some (.int l1), d2, some (.long l3), d4, some (.int l5), some (.int l6), some (.int l7), some (.int l8)] [] h (fun v g => v = none ∧ g = h') := by
  intro f
  induction f with
  | zero => intro l0 l1 l3 l5 l6 l7 l8 d2 d4 h e; cases e
  | succ f ih =>
    intro l0 l1 l3 l5 l6 l7 l8 d2 d4 h e
    unfold b164_77 at e
    refine xo_iload rfl rfl ?_
    refine xo_lload_n rfl rfl ?_
    refine d_static_i (av := [.long l3]) (rest := [.int l8]) rfl ⟨by decide, by decide, by decide⟩ rfl rfl (by simp [xv_fit, va_rf_cat, cat_int, cat_long, cat_ref, cat_null, show xt_mx 146 = 2 from rfl, show xt_lg 146 = [0] from rfl]) (by simp [xv_room, va_rf_cat, cat_int, cat_long, cat_ref, cat_null]) (fun x0 h1 e1 => t146 e1) e (fun v1 h e => ?_)
    refine d_icmp_ge rfl rfl e (fun _ e => ?_) (fun _ e => ?_)
    · exact t164_143 e
    · exact t164_86 (fun a0 a1 a2 a3 a4 a5 a6 a7 a8 h e => ih a0 a1 a2 a3 a4 a5 a6 a7 a8 h e) e
def b164_26 (F : Nat) (l0 : Option Nat) (l1 : Int32) (l2 : Int32) (l3 : Int64) (l5 : Int32) (l6 : Int32) (l7 : Int32) : xm Unit := mb (nn l0) fun v1 => mb (gr 940 v1) fun v2 => mb (gr 939 v1) fun v3 => mb (nn v3) fun v4 => mb (li v4 l1) fun v5 => mb (vc 9 v1) fun _ => mb (m145 F v1 l1) fun v6 => mb (nn v2) fun v7 => mb (si v7 (((6 : Int32) * l1) + v5) v6) fun _ => mb (gr 941 v1) fun v8 => mb (gr 939 v1) fun v9 => mb (nn v9) fun v10 => mb (li v10 l1) fun v11 => mb (nn v8) fun v12 => mb (si v12 (((6 : Int32) * l1) + v11) l2) fun _ => mb (gr 939 v1) fun v13 => mb (nn v13) fun v14 => mb (li v14 l1) fun v15 => mb (si v14 l1 (v15 + (1 : Int32))) fun _ => b164_77 F F (some v1) l1 l3 l5 l6 l7 (0 : Int32)
theorem t164_26 {sc : Nat × (Nat → Int32)} {F : Nat} {r : Unit} {h' : xv_H} {l0 : Option Nat} {l1 : Int32} {l2 : Int32} {l3 : Int64} {l5 : Int32} {l6 : Int32} {l7 : Int32} {d4 d8 : Option Value} {h : xv_H} (e : b164_26 F l0 l1 l2 l3 l5 l6 l7 h = some (r, h')) : xx sc 164 26 [some (va_rf l0), some (.int l1), some (.int l2), some (.long l3), d4, some (.int l5), some (.int l6), some (.int l7), d8] [] h (fun v g => v = none ∧ g = h') := by
  unfold b164_26 at e
  refine xo_aload_nQ (w := l0) rfl rfl ?_
  refine d_nn e (fun v1 g e1 => ?_)
  subst g
  replace e := e1
  clear e1
  refine d_getr rfl e (fun v2 e => ?_)
  refine xo_bipushV (x := 6) rfl (by decide) ?_
  refine xo_iload_n rfl rfl ?_
  refine xo_imul rfl ?_
  refine xo_aload_nQ (w := (some v1)) rfl rfl ?_
  refine d_getr rfl e (fun v3 e => ?_)
  refine xo_iload_n rfl rfl ?_
  refine d_nn e (fun v4 g e1 => ?_)
  subst g
  replace e := e1
  clear e1
  refine d_iald rfl e (fun v5 e => ?_)
  refine xo_iadd rfl ?_
  refine xo_aload_nQ (w := (some v1)) rfl rfl ?_
  refine xo_iload_n rfl rfl ?_
  refine d_virtual_i (av := [.int l1]) (rest := [.int (((6 : Int32) * l1) + v5), va_rf v2]) rfl ⟨by decide, by decide⟩ rfl rfl (by simp [xv_fit, va_rf_cat, cat_int, cat_long, cat_ref, cat_null, show xt_mx 145 = 2 from rfl, show xt_lg 145 = [] from rfl]) (by simp [xv_room, va_rf_cat, cat_int, cat_long, cat_ref, cat_null]) (fun x0 h1 e1 => t145 e1) e (fun v6 h e => ?_)
  refine d_nn e (fun v7 g e1 => ?_)
  subst g
  replace e := e1
  clear e1
  refine d_iast rfl e (fun h e => ?_)
  refine xo_aload_nQ (w := (some v1)) rfl rfl ?_
  refine d_getr rfl e (fun v8 e => ?_)
  refine xo_bipushV (x := 6) rfl (by decide) ?_
  refine xo_iload_n rfl rfl ?_
  refine xo_imul rfl ?_
  refine xo_aload_nQ (w := (some v1)) rfl rfl ?_
  refine d_getr rfl e (fun v9 e => ?_)
  refine xo_iload_n rfl rfl ?_
  refine d_nn e (fun v10 g e1 => ?_)
  subst g
  replace e := e1
  clear e1
  refine d_iald rfl e (fun v11 e => ?_)
  refine xo_iadd rfl ?_
  refine xo_iload_n rfl rfl ?_
  refine d_nn e (fun v12 g e1 => ?_)
  subst g
  replace e := e1
  clear e1
  refine d_iast rfl e (fun h e => ?_)
  refine xo_aload_nQ (w := (some v1)) rfl rfl ?_
  refine d_getr rfl e (fun v13 e => ?_)
  refine xo_iload_n rfl rfl ?_
  refine xo_dup2 rfl (by first | rfl | exact va_rf_cat _) (by first | rfl | exact va_rf_cat _) ?_
  refine d_nn e (fun v14 g e1 => ?_)
  subst g
  replace e := e1
  clear e1
  refine d_iald rfl e (fun v15 e => ?_)
  refine xo_iconstV (x := 1) rfl (by decide) ?_
  refine xo_iadd rfl ?_
  refine d_iast rfl e (fun h e => ?_)
  refine xo_iconstV (x := 0) rfl (by decide) ?_
  refine xo_istore rfl (Nat.le_of_ble_eq_true rfl) rfl ?_
  exact t164_77 F _ _ _ _ _ _ _ _ _ _ e
def b164_11 (F : Nat) (l0 : Option Nat) (l1 : Int32) : xm Unit := mb (nn l0) fun v1 => mb (gr 926 v1) fun v2 => mb (nn v2) fun v3 => mb (si v3 l1 (4 : Int32)) fun _ => mb (gr 932 v1) fun v4 => mb (nn v4) fun v5 => mb (si v5 l1 (0 : Int32)) fun _ => mr ()
theorem t164_11 {sc : Nat × (Nat → Int32)} {F : Nat} {r : Unit} {h' : xv_H} {l0 : Option Nat} {l1 : Int32} {d2 d3 d4 d5 d6 d7 d8 : Option Value} {h : xv_H} (e : b164_11 F l0 l1 h = some (r, h')) : xx sc 164 11 [some (va_rf l0), some (.int l1), d2, d3, d4, d5, d6, d7, d8] [] h (fun v g => v = none ∧ g = h') := by
  unfold b164_11 at e
  refine xo_aload_nQ (w := l0) rfl rfl ?_
  refine d_nn e (fun v1 g e1 => ?_)
  subst g
  replace e := e1
  clear e1
  refine d_getr rfl e (fun v2 e => ?_)
  refine xo_iload_n rfl rfl ?_
  refine xo_iconstV (x := 4) rfl (by decide) ?_
  refine d_nn e (fun v3 g e1 => ?_)
  subst g
  replace e := e1
  clear e1
  refine d_iast rfl e (fun h e => ?_)
  refine xo_aload_nQ (w := (some v1)) rfl rfl ?_
  refine d_getr rfl e (fun v4 e => ?_)
  refine xo_iload_n rfl rfl ?_
  refine xo_iconstV (x := 0) rfl (by decide) ?_
  refine d_nn e (fun v5 g e1 => ?_)
  subst g
  replace e := e1
  clear e1
  refine d_iast rfl e (fun h e => ?_)
  exact d_ret rfl e
def b164_0 (F : Nat) (l0 : Option Nat) (l1 : Int32) (l2 : Int32) (l3 : Int64) (l5 : Int32) (l6 : Int32) (l7 : Int32) : xm Unit := mb (nn l0) fun v1 => mb (gr 939 v1) fun v2 => mb (nn v2) fun v3 => mb (li v3 l1) fun v4 => if ¬ v4 = (6 : Int32) then b164_26 F (some v1) l1 l2 l3 l5 l6 l7 else b164_11 F (some v1) l1
theorem t164_0 {sc : Nat × (Nat → Int32)} {F : Nat} {r : Unit} {h' : xv_H} {l0 : Option Nat} {l1 : Int32} {l2 : Int32} {l3 : Int64} {l5 : Int32} {l6 : Int32} {l7 : Int32} {d4 d8 : Option Value} {h : xv_H} (e : b164_0 F l0 l1 l2 l3 l5 l6 l7 h = some (r, h')) : xx sc 164 0 [some (va_rf l0), some (.int l1), some (.int l2), some (.long l3), d4, some (.int l5), some (.int l6), some (.int l7), d8] [] h (fun v g => v = none ∧ g = h') := by
  unfold b164_0 at e
  refine xo_aload_nQ (w := l0) rfl rfl ?_
  refine d_nn e (fun v1 g e1 => ?_)
  subst g
  replace e := e1
  clear e1
  refine d_getr rfl e (fun v2 e => ?_)
  refine xo_iload_n rfl rfl ?_
  refine d_nn e (fun v3 g e1 => ?_)
  subst g
  replace e := e1
  clear e1
  refine d_iald rfl e (fun v4 e => ?_)
  refine xo_bipushV (x := 6) rfl (by decide) ?_
  refine d_icmp_ne rfl rfl e (fun _ e => ?_) (fun _ e => ?_)
  · exact t164_26 e
  · exact t164_11 e
def m164 (F : Nat) (this : Nat) (p0 : Int32) (p1 : Int32) (p2 : Int64) (p3 : Int32) (p4 : Int32) (p5 : Int32) : xm Unit := b164_0 F (some this) p0 p1 p2 p3 p4 p5
theorem t164 {sc : Nat × (Nat → Int32)} {F : Nat} {this : Nat} {p0 : Int32} {p1 : Int32} {p2 : Int64} {p3 : Int32} {p4 : Int32} {p5 : Int32} {h : xv_H} {r : Unit} {h' : xv_H} (e : m164 F this p0 p1 p2 p3 p4 p5 h = some (r, h')) : xr sc 164 [.ref this, .int p0, .int p1, .long p2, .int p3, .int p4, .int p5] h (fun v g => v = none ∧ g = h') := by
  have e0 : xv_ent (xt_mx 164) [.ref this, .int p0, .int p1, .long p2, .int p3, .int p4, .int p5] = [some (va_rf (some this)), some (.int p0), some (.int p1), some (.long p2), none, some (.int p3), some (.int p4), some (.int p5), none] := by simp [xv_ent, xv_sl, va_rf_cat, cat_int, cat_long, cat_ref, cat_null, va_rf_some, show xt_mx 164 = 9 from rfl]
  unfold xr
  rw [e0]
  exact t164_0 e
