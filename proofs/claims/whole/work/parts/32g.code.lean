-- CellTree.about(II)I
def b112_100 (F : Nat) : xm Int32 := mr (-1 : Int32)
theorem t112_100 {sc : Nat × (Nat → Int32)} {F : Nat} {r : Int32} {h' : xv_H} {d0 d1 d2 d3 : Option Value} {h : xv_H} (e : b112_100 F h = some (r, h')) : xx sc 112 100 [d0, d1, d2, d3] [] h (fun v g => v = some (.int r) ∧ g = h') := by
  unfold b112_100 at e
  refine xo_iconstV (x := (-1)) rfl (by decide) ?_
  exact d_iret rfl e
def b112_95 (F : Nat) (l3 : Option Nat) : xm Int32 := mb (nn l3) fun v1 => mb (gi 108 v1) fun v2 => mr v2
theorem t112_95 {sc : Nat × (Nat → Int32)} {F : Nat} {r : Int32} {h' : xv_H} {l3 : Option Nat} {d0 d1 d2 : Option Value} {h : xv_H} (e : b112_95 F l3 h = some (r, h')) : xx sc 112 95 [d0, d1, d2, some (va_rf l3)] [] h (fun v g => v = some (.int r) ∧ g = h') := by
  unfold b112_95 at e
  refine xo_aload_nQ (w := l3) rfl rfl ?_
  refine d_nn e (fun v1 g e1 => ?_)
  subst g
  replace e := e1
  clear e1
  refine d_geti rfl e (fun v2 e => ?_)
  exact d_iret rfl e
def b112_94 (F : Nat) (s0 : Int32) : xm Int32 := mr s0
theorem t112_94 {sc : Nat × (Nat → Int32)} {F : Nat} {r : Int32} {h' : xv_H} {s0 : Int32} {d0 d1 d2 d3 : Option Value} {h : xv_H} (e : b112_94 F s0 h = some (r, h')) : xx sc 112 94 [d0, d1, d2, d3] [.int s0] h (fun v g => v = some (.int r) ∧ g = h') := by
  unfold b112_94 at e
  exact d_iret rfl e
def b112_87 (F : Nat) (l3 : Option Nat) : xm Int32 := mb (nn l3) fun v1 => mb (gr 111 v1) fun v2 => mb (nn v2) fun v3 => mb (gi 405 v3) fun v4 => b112_94 F v4
theorem t112_87 {sc : Nat × (Nat → Int32)} {F : Nat} {r : Int32} {h' : xv_H} {l3 : Option Nat} {d0 d1 d2 : Option Value} {h : xv_H} (e : b112_87 F l3 h = some (r, h')) : xx sc 112 87 [d0, d1, d2, some (va_rf l3)] [] h (fun v g => v = some (.int r) ∧ g = h') := by
  unfold b112_87 at e
  refine xo_aload_nQ (w := l3) rfl rfl ?_
  refine d_nn e (fun v1 g e1 => ?_)
  subst g
  replace e := e1
  clear e1
  refine d_getr rfl e (fun v2 e => ?_)
  refine d_nn e (fun v3 g e1 => ?_)
  subst g
  replace e := e1
  clear e1
  refine d_geti rfl e (fun v4 e => ?_)
  exact t112_94 e
def b112_83 (F : Nat) : xm Int32 := b112_94 F (0 : Int32)
theorem t112_83 {sc : Nat × (Nat → Int32)} {F : Nat} {r : Int32} {h' : xv_H} {d0 d1 d2 d3 : Option Value} {h : xv_H} (e : b112_83 F h = some (r, h')) : xx sc 112 83 [d0, d1, d2, d3] [] h (fun v g => v = some (.int r) ∧ g = h') := by
  unfold b112_83 at e
  refine xo_iconstV (x := 0) rfl (by decide) ?_
  refine xo_goto rfl rfl ?_
  exact t112_94 e
def b112_76 (F : Nat) (l3 : Option Nat) : xm Int32 := mb (nn l3) fun v1 => mb (gr 111 v1) fun v2 => if ¬ v2 = none then b112_87 F (some v1) else b112_83 F
theorem t112_76 {sc : Nat × (Nat → Int32)} {F : Nat} {r : Int32} {h' : xv_H} {l3 : Option Nat} {d0 d1 d2 : Option Value} {h : xv_H} (e : b112_76 F l3 h = some (r, h')) : xx sc 112 76 [d0, d1, d2, some (va_rf l3)] [] h (fun v g => v = some (.int r) ∧ g = h') := by
  unfold b112_76 at e
  refine xo_aload_nQ (w := l3) rfl rfl ?_
  refine d_nn e (fun v1 g e1 => ?_)
  subst g
  replace e := e1
  clear e1
  refine d_getr rfl e (fun v2 e => ?_)
  refine d_ifnonnull (w := v2) rfl rfl e (fun _ e => ?_) (fun _ e => ?_)
  · exact t112_87 e
  · exact t112_83 e
def b112_68 (F : Nat) (l3 : Option Nat) : xm Int32 := mb (nn l3) fun v1 => mb (gr 102 v1) fun v2 => mb (nn v2) fun v3 => mb (vc 2 v3) fun _ => mb (m115 F v3) fun v4 => mr v4
theorem t112_68 {sc : Nat × (Nat → Int32)} {F : Nat} {r : Int32} {h' : xv_H} {l3 : Option Nat} {d0 d1 d2 : Option Value} {h : xv_H} (e : b112_68 F l3 h = some (r, h')) : xx sc 112 68 [d0, d1, d2, some (va_rf l3)] [] h (fun v g => v = some (.int r) ∧ g = h') := by
  unfold b112_68 at e
  refine xo_aload_nQ (w := l3) rfl rfl ?_
  refine d_nn e (fun v1 g e1 => ?_)
  subst g
  replace e := e1
  clear e1
  refine d_getr rfl e (fun v2 e => ?_)
  refine d_nn e (fun v3 g e1 => ?_)
  subst g
  replace e := e1
  clear e1
  refine d_virtual_i (av := []) (rest := []) rfl ⟨by decide, by decide⟩ rfl rfl (by simp [xv_fit, va_rf_cat, cat_int, cat_long, cat_ref, cat_null, show xt_mx 115 = 1 from rfl, show xt_lg 115 = [] from rfl]) (by simp [xv_room, va_rf_cat, cat_int, cat_long, cat_ref, cat_null]) (fun x0 h1 e1 => t115 e1) e (fun v4 h e => ?_)
  exact d_iret rfl e
def b112_60 (F : Nat) (l3 : Option Nat) : xm Int32 := mb (nn l3) fun v1 => mb (gr 102 v1) fun v2 => mb (nn v2) fun v3 => mb (vc 2 v3) fun _ => mb (m114 F v3) fun v4 => mr v4
theorem t112_60 {sc : Nat × (Nat → Int32)} {F : Nat} {r : Int32} {h' : xv_H} {l3 : Option Nat} {d0 d1 d2 : Option Value} {h : xv_H} (e : b112_60 F l3 h = some (r, h')) : xx sc 112 60 [d0, d1, d2, some (va_rf l3)] [] h (fun v g => v = some (.int r) ∧ g = h') := by
  unfold b112_60 at e
  refine xo_aload_nQ (w := l3) rfl rfl ?_
  refine d_nn e (fun v1 g e1 => ?_)
  subst g
  replace e := e1
  clear e1
  refine d_getr rfl e (fun v2 e => ?_)
  refine d_nn e (fun v3 g e1 => ?_)
  subst g
  replace e := e1
  clear e1
  refine d_virtual_i (av := []) (rest := []) rfl ⟨by decide, by decide⟩ rfl rfl (by simp [xv_fit, va_rf_cat, cat_int, cat_long, cat_ref, cat_null, show xt_mx 114 = 1 from rfl, show xt_lg 114 = [] from rfl]) (by simp [xv_room, va_rf_cat, cat_int, cat_long, cat_ref, cat_null]) (fun x0 h1 e1 => t114 e1) e (fun v4 h e => ?_)
  exact d_iret rfl e
def b112_52 (F : Nat) (l3 : Option Nat) : xm Int32 := mb (nn l3) fun v1 => mb (gr 102 v1) fun v2 => mb (nn v2) fun v3 => mb (vc 2 v3) fun _ => mb (m113 F v3) fun v4 => mr v4
theorem t112_52 {sc : Nat × (Nat → Int32)} {F : Nat} {r : Int32} {h' : xv_H} {l3 : Option Nat} {d0 d1 d2 : Option Value} {h : xv_H} (e : b112_52 F l3 h = some (r, h')) : xx sc 112 52 [d0, d1, d2, some (va_rf l3)] [] h (fun v g => v = some (.int r) ∧ g = h') := by
  unfold b112_52 at e
  refine xo_aload_nQ (w := l3) rfl rfl ?_
  refine d_nn e (fun v1 g e1 => ?_)
  subst g
  replace e := e1
  clear e1
  refine d_getr rfl e (fun v2 e => ?_)
  refine d_nn e (fun v3 g e1 => ?_)
  subst g
  replace e := e1
  clear e1
  refine d_virtual_i (av := []) (rest := []) rfl ⟨by decide, by decide⟩ rfl rfl (by simp [xv_fit, va_rf_cat, cat_int, cat_long, cat_ref, cat_null, show xt_mx 113 = 1 from rfl, show xt_lg 113 = [] from rfl]) (by simp [xv_room, va_rf_cat, cat_int, cat_long, cat_ref, cat_null]) (fun x0 h1 e1 => t113 e1) e (fun v4 h e => ?_)
  exact d_iret rfl e
def b112_9 (F : Nat) (l0 : Option Nat) (l1 : Int32) (l2 : Int32) : xm Int32 := mb (nn l0) fun v1 => mb (gr 1 v1) fun v2 => mb (nn v2) fun v3 => mb (lr 105 v3 l1) fun v4 => if l2 = (0 : Int32) then b112_52 F v4 else if l2 = (1 : Int32) then b112_60 F v4 else if l2 = (2 : Int32) then b112_68 F v4 else if l2 = (3 : Int32) then b112_76 F v4 else if l2 = (4 : Int32) then b112_95 F v4 else b112_100 F
theorem t112_9 {sc : Nat × (Nat → Int32)} {F : Nat} {r : Int32} {h' : xv_H} {l0 : Option Nat} {l1 : Int32} {l2 : Int32} {d3 : Option Value} {h : xv_H} (e : b112_9 F l0 l1 l2 h = some (r, h')) : xx sc 112 9 [some (va_rf l0), some (.int l1), some (.int l2), d3] [] h (fun v g => v = some (.int r) ∧ g = h') := by
  unfold b112_9 at e
  refine xo_aload_nQ (w := l0) rfl rfl ?_
  refine d_nn e (fun v1 g e1 => ?_)
  subst g
  replace e := e1
  clear e1
  refine d_getr rfl e (fun v2 e => ?_)
  refine xo_iload_n rfl rfl ?_
  refine d_nn e (fun v3 g e1 => ?_)
  subst g
  replace e := e1
  clear e1
  refine d_aald rfl e (fun v4 e => ?_)
  refine xo_astore_nQ (w := v4) rfl (Nat.le_of_ble_eq_true rfl) rfl ?_
  refine xo_iload_n rfl rfl ?_
  by_cases g0 : l2 = (0 : Int32)
  · rw [if_pos g0] at e
    refine xo_tabIn rfl (by rw [g0]; decide) (by rw [g0]; rfl) rfl ?_
    exact t112_52 e
  rw [if_neg g0] at e
  by_cases g1 : l2 = (1 : Int32)
  · rw [if_pos g1] at e
    refine xo_tabIn rfl (by rw [g1]; decide) (by rw [g1]; rfl) rfl ?_
    exact t112_60 e
  rw [if_neg g1] at e
  by_cases g2 : l2 = (2 : Int32)
  · rw [if_pos g2] at e
    refine xo_tabIn rfl (by rw [g2]; decide) (by rw [g2]; rfl) rfl ?_
    exact t112_68 e
  rw [if_neg g2] at e
  by_cases g3 : l2 = (3 : Int32)
  · rw [if_pos g3] at e
    refine xo_tabIn rfl (by rw [g3]; decide) (by rw [g3]; rfl) rfl ?_
    exact t112_76 e
  rw [if_neg g3] at e
  by_cases g4 : l2 = (4 : Int32)
  · rw [if_pos g4] at e
    refine xo_tabIn rfl (by rw [g4]; decide) (by rw [g4]; rfl) rfl ?_
    exact t112_95 e
  rw [if_neg g4] at e
  refine xo_tabOut rfl (sw_out 4 (by decide) (fun k hk => by rcases k with _ | _ | _ | _ | _ | k <;> first | assumption | omega)) rfl ?_
  exact t112_100 e
def b112_7 (F : Nat) : xm Int32 := mr (-1 : Int32)
theorem t112_7 {sc : Nat × (Nat → Int32)} {F : Nat} {r : Int32} {h' : xv_H} {d0 d1 d2 d3 : Option Value} {h : xv_H} (e : b112_7 F h = some (r, h')) : xx sc 112 7 [d0, d1, d2, d3] [] h (fun v g => v = some (.int r) ∧ g = h') := by
  unfold b112_7 at e
  refine xo_iconstV (x := (-1)) rfl (by decide) ?_
  exact d_iret rfl e
def b112_0 (F : Nat) (l0 : Option Nat) (l1 : Int32) (l2 : Int32) : xm Int32 := mb (m11 F l1) fun v1 => if ¬ v1 = 0 then b112_9 F l0 l1 l2 else b112_7 F
theorem t112_0 {sc : Nat × (Nat → Int32)} {F : Nat} {r : Int32} {h' : xv_H} {l0 : Option Nat} {l1 : Int32} {l2 : Int32} {d3 : Option Value} {h : xv_H} (e : b112_0 F l0 l1 l2 h = some (r, h')) : xx sc 112 0 [some (va_rf l0), some (.int l1), some (.int l2), d3] [] h (fun v g => v = some (.int r) ∧ g = h') := by
  unfold b112_0 at e
  refine xo_iload_n rfl rfl ?_
  refine d_static_i (av := [.int l1]) (rest := []) rfl ⟨by decide, by decide, by decide⟩ rfl rfl (by simp [xv_fit, va_rf_cat, cat_int, cat_long, cat_ref, cat_null, show xt_mx 11 = 1 from rfl, show xt_lg 11 = [] from rfl]) (by simp [xv_room, va_rf_cat, cat_int, cat_long, cat_ref, cat_null]) (fun x0 h1 e1 => t11 e1) e (fun v1 h e => ?_)
  refine d_if_ne rfl rfl e (fun _ e => ?_) (fun _ e => ?_)
  · exact t112_9 e
  · exact t112_7 e
def m112 (F : Nat) (this : Nat) (p0 : Int32) (p1 : Int32) : xm Int32 := b112_0 F (some this) p0 p1
theorem t112 {sc : Nat × (Nat → Int32)} {F : Nat} {this : Nat} {p0 : Int32} {p1 : Int32} {h : xv_H} {r : Int32} {h' : xv_H} (e : m112 F this p0 p1 h = some (r, h')) : xr sc 112 [.ref this, .int p0, .int p1] h (fun v g => v = some (.int r) ∧ g = h') := by
  have e0 : xv_ent (xt_mx 112) [.ref this, .int p0, .int p1] = [some (va_rf (some this)), some (.int p0), some (.int p1), none] := by simp [xv_ent, xv_sl, va_rf_cat, cat_int, cat_long, cat_ref, cat_null, va_rf_some, show xt_mx 112 = 4 from rfl]
  unfold xr
  rw [e0]
  exact t112_0 e
-- CellTree.isAddress(I)Z
def b117_15 (F : Nat) (s0 : Int32) : xm Int32 := mb (bz s0) fun _ => mr s0
theorem t117_15 {sc : Nat × (Nat → Int32)} {F : Nat} {r : Int32} {h' : xv_H} {s0 : Int32} {d0 : Option Value} {h : xv_H} (e : b117_15 F s0 h = some (r, h')) : xx sc 117 15 [d0] [.int s0] h (fun v g => v = some (.int r) ∧ g = h') := by
  unfold b117_15 at e
  exact d_zret rfl e
def b117_14 (F : Nat) : xm Int32 := b117_15 F (0 : Int32)
theorem t117_14 {sc : Nat × (Nat → Int32)} {F : Nat} {r : Int32} {h' : xv_H} {d0 : Option Value} {h : xv_H} (e : b117_14 F h = some (r, h')) : xx sc 117 14 [d0] [] h (fun v g => v = some (.int r) ∧ g = h') := by
  unfold b117_14 at e
  refine xo_iconstV (x := 0) rfl (by decide) ?_
  exact t117_15 e
def b117_10 (F : Nat) : xm Int32 := b117_15 F (1 : Int32)
theorem t117_10 {sc : Nat × (Nat → Int32)} {F : Nat} {r : Int32} {h' : xv_H} {d0 : Option Value} {h : xv_H} (e : b117_10 F h = some (r, h')) : xx sc 117 10 [d0] [] h (fun v g => v = some (.int r) ∧ g = h') := by
  unfold b117_10 at e
  refine xo_iconstV (x := 1) rfl (by decide) ?_
  refine xo_goto rfl rfl ?_
  exact t117_15 e
def b117_4 (F : Nat) (l0 : Int32) : xm Int32 := if (24 : Int32) ≤ l0 then b117_14 F else b117_10 F
theorem t117_4 {sc : Nat × (Nat → Int32)} {F : Nat} {r : Int32} {h' : xv_H} {l0 : Int32} {h : xv_H} (e : b117_4 F l0 h = some (r, h')) : xx sc 117 4 [some (.int l0)] [] h (fun v g => v = some (.int r) ∧ g = h') := by
  unfold b117_4 at e
  refine xo_iload_n rfl rfl ?_
  refine xo_bipushV (x := 24) rfl (by decide) ?_
  refine d_icmp_ge rfl rfl e (fun _ e => ?_) (fun _ e => ?_)
  · exact t117_14 e
  · exact t117_10 e
def b117_0 (F : Nat) (l0 : Int32) : xm Int32 := if l0 < 0 then b117_14 F else b117_4 F l0
theorem t117_0 {sc : Nat × (Nat → Int32)} {F : Nat} {r : Int32} {h' : xv_H} {l0 : Int32} {h : xv_H} (e : b117_0 F l0 h = some (r, h')) : xx sc 117 0 [some (.int l0)] [] h (fun v g => v = some (.int r) ∧ g = h') := by
  unfold b117_0 at e
  refine xo_iload_n rfl rfl ?_
  refine d_if_lt rfl rfl e (fun _ e => ?_) (fun _ e => ?_)
  · exact t117_14 e
  · exact t117_4 e
def m117 (F : Nat) (p0 : Int32) : xm Int32 := b117_0 F p0
theorem t117 {sc : Nat × (Nat → Int32)} {F : Nat} {p0 : Int32} {h : xv_H} {r : Int32} {h' : xv_H} (e : m117 F p0 h = some (r, h')) : xr sc 117 [.int p0] h (fun v g => v = some (.int r) ∧ g = h') := by
  have e0 : xv_ent (xt_mx 117) [.int p0] = [some (.int p0)] := by simp [xv_ent, xv_sl, va_rf_cat, cat_int, cat_long, cat_ref, cat_null, va_rf_some, show xt_mx 117 = 1 from rfl]
  unfold xr
  rw [e0]
  exact t117_0 e
-- CellTree.copy(II)I
def b116_40 (F : Nat) (s0 : Int32) : xm Int32 := mr s0
theorem t116_40 {sc : Nat × (Nat → Int32)} {F : Nat} {r : Int32} {h' : xv_H} {s0 : Int32} {d0 d1 d2 d3 : Option Value} {h : xv_H} (e : b116_40 F s0 h = some (r, h')) : xx sc 116 40 [d0, d1, d2, d3] [.int s0] h (fun v g => v = some (.int r) ∧ g = h') := by
  unfold b116_40 at e
  exact d_iret rfl e
def b116_36 (F : Nat) (l3 : Option Nat) : xm Int32 := mb (nn l3) fun v1 => mb (gi 700 v1) fun v2 => b116_40 F v2
theorem t116_36 {sc : Nat × (Nat → Int32)} {F : Nat} {r : Int32} {h' : xv_H} {l3 : Option Nat} {d0 d1 d2 : Option Value} {h : xv_H} (e : b116_36 F l3 h = some (r, h')) : xx sc 116 36 [d0, d1, d2, some (va_rf l3)] [] h (fun v g => v = some (.int r) ∧ g = h') := by
  unfold b116_36 at e
  refine xo_aload_nQ (w := l3) rfl rfl ?_
  refine d_nn e (fun v1 g e1 => ?_)
  subst g
  replace e := e1
  clear e1
  refine d_geti rfl e (fun v2 e => ?_)
  exact t116_40 e
def b116_32 (F : Nat) : xm Int32 := b116_40 F (0 : Int32)
theorem t116_32 {sc : Nat × (Nat → Int32)} {F : Nat} {r : Int32} {h' : xv_H} {d0 d1 d2 d3 : Option Value} {h : xv_H} (e : b116_32 F h = some (r, h')) : xx sc 116 32 [d0, d1, d2, d3] [] h (fun v g => v = some (.int r) ∧ g = h') := by
  unfold b116_32 at e
  refine xo_iconstV (x := 0) rfl (by decide) ?_
  refine xo_goto rfl rfl ?_
  exact t116_40 e
def b116_16 (F : Nat) (l0 : Option Nat) (l1 : Int32) (l2 : Int32) : xm Int32 := mb (nn l0) fun v1 => mb (gr 1 v1) fun v2 => mb (nn v2) fun v3 => mb (lr 105 v3 l1) fun v4 => mb (nn v4) fun v5 => mb (gr 101 v5) fun v6 => mb (nn v6) fun v7 => mb (lr 108 v7 l2) fun v8 => if ¬ v8 = none then b116_36 F v8 else b116_32 F
theorem t116_16 {sc : Nat × (Nat → Int32)} {F : Nat} {r : Int32} {h' : xv_H} {l0 : Option Nat} {l1 : Int32} {l2 : Int32} {d3 : Option Value} {h : xv_H} (e : b116_16 F l0 l1 l2 h = some (r, h')) : xx sc 116 16 [some (va_rf l0), some (.int l1), some (.int l2), d3] [] h (fun v g => v = some (.int r) ∧ g = h') := by
  unfold b116_16 at e
  refine xo_aload_nQ (w := l0) rfl rfl ?_
  refine d_nn e (fun v1 g e1 => ?_)
  subst g
  replace e := e1
  clear e1
  refine d_getr rfl e (fun v2 e => ?_)
  refine xo_iload_n rfl rfl ?_
  refine d_nn e (fun v3 g e1 => ?_)
  subst g
  replace e := e1
  clear e1
  refine d_aald rfl e (fun v4 e => ?_)
  refine d_nn e (fun v5 g e1 => ?_)
  subst g
  replace e := e1
  clear e1
  refine d_getr rfl e (fun v6 e => ?_)
  refine xo_iload_n rfl rfl ?_
  refine d_nn e (fun v7 g e1 => ?_)
  subst g
  replace e := e1
  clear e1
  refine d_aald rfl e (fun v8 e => ?_)
  refine xo_astore_nQ (w := v8) rfl (Nat.le_of_ble_eq_true rfl) rfl ?_
  refine xo_aload_nQ (w := v8) rfl rfl ?_
  refine d_ifnonnull (w := v8) rfl rfl e (fun _ e => ?_) (fun _ e => ?_)
  · exact t116_36 e
  · exact t116_32 e
def b116_14 (F : Nat) : xm Int32 := mr (-1 : Int32)
theorem t116_14 {sc : Nat × (Nat → Int32)} {F : Nat} {r : Int32} {h' : xv_H} {d0 d1 d2 d3 : Option Value} {h : xv_H} (e : b116_14 F h = some (r, h')) : xx sc 116 14 [d0, d1, d2, d3] [] h (fun v g => v = some (.int r) ∧ g = h') := by
  unfold b116_14 at e
  refine xo_iconstV (x := (-1)) rfl (by decide) ?_
  exact d_iret rfl e
def b116_7 (F : Nat) (l0 : Option Nat) (l1 : Int32) (l2 : Int32) : xm Int32 := mb (m117 F l2) fun v1 => if ¬ v1 = 0 then b116_16 F l0 l1 l2 else b116_14 F
theorem t116_7 {sc : Nat × (Nat → Int32)} {F : Nat} {r : Int32} {h' : xv_H} {l0 : Option Nat} {l1 : Int32} {l2 : Int32} {d3 : Option Value} {h : xv_H} (e : b116_7 F l0 l1 l2 h = some (r, h')) : xx sc 116 7 [some (va_rf l0), some (.int l1), some (.int l2), d3] [] h (fun v g => v = some (.int r) ∧ g = h') := by
  unfold b116_7 at e
  refine xo_iload_n rfl rfl ?_
  refine d_static_i (av := [.int l2]) (rest := []) rfl ⟨by decide, by decide, by decide⟩ rfl rfl (by simp [xv_fit, va_rf_cat, cat_int, cat_long, cat_ref, cat_null, show xt_mx 117 = 1 from rfl, show xt_lg 117 = [] from rfl]) (by simp [xv_room, va_rf_cat, cat_int, cat_long, cat_ref, cat_null]) (fun x0 h1 e1 => t117 e1) e (fun v1 h e => ?_)
  refine d_if_ne rfl rfl e (fun _ e => ?_) (fun _ e => ?_)
  · exact t116_16 e
  · exact t116_14 e
def b116_0 (F : Nat) (l0 : Option Nat) (l1 : Int32) (l2 : Int32) : xm Int32 := mb (m11 F l1) fun v1 => if v1 = 0 then b116_14 F else b116_7 F l0 l1 l2
theorem t116_0 {sc : Nat × (Nat → Int32)} {F : Nat} {r : Int32} {h' : xv_H} {l0 : Option Nat} {l1 : Int32} {l2 : Int32} {d3 : Option Value} {h : xv_H} (e : b116_0 F l0 l1 l2 h = some (r, h')) : xx sc 116 0 [some (va_rf l0), some (.int l1), some (.int l2), d3] [] h (fun v g => v = some (.int r) ∧ g = h') := by
  unfold b116_0 at e
  refine xo_iload_n rfl rfl ?_
  refine d_static_i (av := [.int l1]) (rest := []) rfl ⟨by decide, by decide, by decide⟩ rfl rfl (by simp [xv_fit, va_rf_cat, cat_int, cat_long, cat_ref, cat_null, show xt_mx 11 = 1 from rfl, show xt_lg 11 = [] from rfl]) (by simp [xv_room, va_rf_cat, cat_int, cat_long, cat_ref, cat_null]) (fun x0 h1 e1 => t11 e1) e (fun v1 h e => ?_)
  refine d_if_eq rfl rfl e (fun _ e => ?_) (fun _ e => ?_)
  · exact t116_14 e
  · exact t116_7 e
def m116 (F : Nat) (this : Nat) (p0 : Int32) (p1 : Int32) : xm Int32 := b116_0 F (some this) p0 p1
theorem t116 {sc : Nat × (Nat → Int32)} {F : Nat} {this : Nat} {p0 : Int32} {p1 : Int32} {h : xv_H} {r : Int32} {h' : xv_H} (e : m116 F this p0 p1 h = some (r, h')) : xr sc 116 [.ref this, .int p0, .int p1] h (fun v g => v = some (.int r) ∧ g = h') := by
  have e0 : xv_ent (xt_mx 116) [.ref this, .int p0, .int p1] = [some (va_rf (some this)), some (.int p0), some (.int p1), none] := by simp [xv_ent, xv_sl, va_rf_cat, cat_int, cat_long, cat_ref, cat_null, va_rf_some, show xt_mx 116 = 4 from rfl]
  unfold xr
  rw [e0]
  exact t116_0 e
-- CellTree.cellAt(I)LCellTree$Cell;
def b119_0 (F : Nat) (l0 : Option Nat) (l1 : Int32) : xm (Option Nat) := mb (nn l0) fun v1 => mb (gr 0 v1) fun v2 => mb (dz (8 : Int32)) fun _ => mb (nn v2) fun v3 => mb (lr 104 v3 (l1 / (8 : Int32))) fun v4 => mb (nn v4) fun v5 => mb (gr 301 v5) fun v6 => mb (dz (8 : Int32)) fun _ => mb (nn v6) fun v7 => mb (lr 108 v7 (l1 - l1 / (8 : Int32) * (8 : Int32))) fun v8 => mr v8
theorem t119_0 {sc : Nat × (Nat → Int32)} {F : Nat} {r : Option Nat} {h' : xv_H} {l0 : Option Nat} {l1 : Int32} {h : xv_H} (e : b119_0 F l0 l1 h = some (r, h')) : xx sc 119 0 [some (va_rf l0), some (.int l1)] [] h (fun v g => v = some (va_rf r) ∧ g = h') := by
  unfold b119_0 at e
  refine xo_aload_nQ (w := l0) rfl rfl ?_
  refine d_nn e (fun v1 g e1 => ?_)
  subst g
  replace e := e1
  clear e1
  refine d_getr rfl e (fun v2 e => ?_)
  refine xo_iload_n rfl rfl ?_
  refine xo_bipushV (x := 8) rfl (by decide) ?_
  refine d_idiv rfl e (fun e => ?_)
  refine d_nn e (fun v3 g e1 => ?_)
  subst g
  replace e := e1
  clear e1
  refine d_aald rfl e (fun v4 e => ?_)
  refine d_nn e (fun v5 g e1 => ?_)
  subst g
  replace e := e1
  clear e1
  refine d_getr rfl e (fun v6 e => ?_)
  refine xo_iload_n rfl rfl ?_
  refine xo_bipushV (x := 8) rfl (by decide) ?_
  refine d_irem rfl e (fun e => ?_)
  refine d_nn e (fun v7 g e1 => ?_)
  subst g
  replace e := e1
  clear e1
  refine d_aald rfl e (fun v8 e => ?_)
  exact d_aret rfl e
def m119 (F : Nat) (this : Nat) (p0 : Int32) : xm (Option Nat) := b119_0 F (some this) p0
theorem t119 {sc : Nat × (Nat → Int32)} {F : Nat} {this : Nat} {p0 : Int32} {h : xv_H} {r : Option Nat} {h' : xv_H} (e : m119 F this p0 h = some (r, h')) : xr sc 119 [.ref this, .int p0] h (fun v g => v = some (va_rf r) ∧ g = h') := by
  have e0 : xv_ent (xt_mx 119) [.ref this, .int p0] = [some (va_rf (some this)), some (.int p0)] := by simp [xv_ent, xv_sl, va_rf_cat, cat_int, cat_long, cat_ref, cat_null, va_rf_some, show xt_mx 119 = 2 from rfl]
  unfold xr
  rw [e0]
  exact t119_0 e
-- CellTree.cell(II)I
def b118_112 (F : Nat) : xm Int32 := mr (-1 : Int32)
theorem t118_112 {sc : Nat × (Nat → Int32)} {F : Nat} {r : Int32} {h' : xv_H} {d0 d1 d2 d3 : Option Value} {h : xv_H} (e : b118_112 F h = some (r, h')) : xx sc 118 112 [d0, d1, d2, d3] [] h (fun v g => v = some (.int r) ∧ g = h') := by
  unfold b118_112 at e
  refine xo_iconstV (x := (-1)) rfl (by decide) ?_
  exact d_iret rfl e
def b118_104 (F : Nat) (l3 : Option Nat) : xm Int32 := mb (nn l3) fun v1 => mb (gr 701 v1) fun v2 => mb (nn v2) fun v3 => mb (gi 602 v3) fun v4 => mr v4
theorem t118_104 {sc : Nat × (Nat → Int32)} {F : Nat} {r : Int32} {h' : xv_H} {l3 : Option Nat} {d0 d1 d2 : Option Value} {h : xv_H} (e : b118_104 F l3 h = some (r, h')) : xx sc 118 104 [d0, d1, d2, some (va_rf l3)] [] h (fun v g => v = some (.int r) ∧ g = h') := by
  unfold b118_104 at e
  refine xo_aload_nQ (w := l3) rfl rfl ?_
  refine d_nn e (fun v1 g e1 => ?_)
  subst g
  replace e := e1
  clear e1
  refine d_getr rfl e (fun v2 e => ?_)
  refine d_nn e (fun v3 g e1 => ?_)
  subst g
  replace e := e1
  clear e1
  refine d_geti rfl e (fun v4 e => ?_)
  exact d_iret rfl e
def b118_96 (F : Nat) (l3 : Option Nat) : xm Int32 := mb (nn l3) fun v1 => mb (gr 701 v1) fun v2 => mb (nn v2) fun v3 => mb (gi 601 v3) fun v4 => mr v4
theorem t118_96 {sc : Nat × (Nat → Int32)} {F : Nat} {r : Int32} {h' : xv_H} {l3 : Option Nat} {d0 d1 d2 : Option Value} {h : xv_H} (e : b118_96 F l3 h = some (r, h')) : xx sc 118 96 [d0, d1, d2, some (va_rf l3)] [] h (fun v g => v = some (.int r) ∧ g = h') := by
  unfold b118_96 at e
  refine xo_aload_nQ (w := l3) rfl rfl ?_
  refine d_nn e (fun v1 g e1 => ?_)
  subst g
  replace e := e1
  clear e1
  refine d_getr rfl e (fun v2 e => ?_)
  refine d_nn e (fun v3 g e1 => ?_)
  subst g
  replace e := e1
  clear e1
  refine d_geti rfl e (fun v4 e => ?_)
  exact d_iret rfl e
def b118_87 (F : Nat) (l3 : Option Nat) : xm Int32 := mb (nn l3) fun v1 => mb (gr 701 v1) fun v2 => mb (nn v2) fun v3 => mb (gr 603 v3) fun v4 => mb (nn v4) fun v5 => mb (len 100 0 v5) fun v6 => mr v6
theorem t118_87 {sc : Nat × (Nat → Int32)} {F : Nat} {r : Int32} {h' : xv_H} {l3 : Option Nat} {d0 d1 d2 : Option Value} {h : xv_H} (e : b118_87 F l3 h = some (r, h')) : xx sc 118 87 [d0, d1, d2, some (va_rf l3)] [] h (fun v g => v = some (.int r) ∧ g = h') := by
  unfold b118_87 at e
  refine xo_aload_nQ (w := l3) rfl rfl ?_
  refine d_nn e (fun v1 g e1 => ?_)
  subst g
  replace e := e1
  clear e1
  refine d_getr rfl e (fun v2 e => ?_)
  refine d_nn e (fun v3 g e1 => ?_)
  subst g
  replace e := e1
  clear e1
  refine d_getr rfl e (fun v4 e => ?_)
  refine d_nn e (fun v5 g e1 => ?_)
  subst g
  replace e := e1
  clear e1
  refine d_len rfl e (fun v6 e => ?_)
  exact d_iret rfl e
def b118_69 (F : Nat) (l0 : Option Nat) (l1 : Int32) : xm Int32 := mb (nn l0) fun v1 => mb (gr 0 v1) fun v2 => mb (dz (8 : Int32)) fun _ => mb (nn v2) fun v3 => mb (lr 104 v3 (l1 / (8 : Int32))) fun v4 => mb (nn v4) fun v5 => mb (gr 302 v5) fun v6 => mb (dz (8 : Int32)) fun _ => mb (nn v6) fun v7 => mb (li v7 (l1 - l1 / (8 : Int32) * (8 : Int32))) fun v8 => mr v8
theorem t118_69 {sc : Nat × (Nat → Int32)} {F : Nat} {r : Int32} {h' : xv_H} {l0 : Option Nat} {l1 : Int32} {d2 d3 : Option Value} {h : xv_H} (e : b118_69 F l0 l1 h = some (r, h')) : xx sc 118 69 [some (va_rf l0), some (.int l1), d2, d3] [] h (fun v g => v = some (.int r) ∧ g = h') := by
  unfold b118_69 at e
  refine xo_aload_nQ (w := l0) rfl rfl ?_
  refine d_nn e (fun v1 g e1 => ?_)
  subst g
  replace e := e1
  clear e1
  refine d_getr rfl e (fun v2 e => ?_)
  refine xo_iload_n rfl rfl ?_
  refine xo_bipushV (x := 8) rfl (by decide) ?_
  refine d_idiv rfl e (fun e => ?_)
  refine d_nn e (fun v3 g e1 => ?_)
  subst g
  replace e := e1
  clear e1
  refine d_aald rfl e (fun v4 e => ?_)
  refine d_nn e (fun v5 g e1 => ?_)
  subst g
  replace e := e1
  clear e1
  refine d_getr rfl e (fun v6 e => ?_)
  refine xo_iload_n rfl rfl ?_
  refine xo_bipushV (x := 8) rfl (by decide) ?_
  refine d_irem rfl e (fun e => ?_)
  refine d_nn e (fun v7 g e1 => ?_)
  subst g
  replace e := e1
  clear e1
  refine d_iald rfl e (fun v8 e => ?_)
  exact d_iret rfl e
def b118_64 (F : Nat) (l3 : Option Nat) : xm Int32 := mb (nn l3) fun v1 => mb (gi 700 v1) fun v2 => mr v2
theorem t118_64 {sc : Nat × (Nat → Int32)} {F : Nat} {r : Int32} {h' : xv_H} {l3 : Option Nat} {d0 d1 d2 : Option Value} {h : xv_H} (e : b118_64 F l3 h = some (r, h')) : xx sc 118 64 [d0, d1, d2, some (va_rf l3)] [] h (fun v g => v = some (.int r) ∧ g = h') := by
  unfold b118_64 at e
  refine xo_aload_nQ (w := l3) rfl rfl ?_
  refine d_nn e (fun v1 g e1 => ?_)
  subst g
  replace e := e1
  clear e1
  refine d_geti rfl e (fun v2 e => ?_)
  exact d_iret rfl e
def b118_56 (F : Nat) (l3 : Option Nat) : xm Int32 := mb (nn l3) fun v1 => mb (gr 701 v1) fun v2 => mb (nn v2) fun v3 => mb (gi 600 v3) fun v4 => mr v4
theorem t118_56 {sc : Nat × (Nat → Int32)} {F : Nat} {r : Int32} {h' : xv_H} {l3 : Option Nat} {d0 d1 d2 : Option Value} {h : xv_H} (e : b118_56 F l3 h = some (r, h')) : xx sc 118 56 [d0, d1, d2, some (va_rf l3)] [] h (fun v g => v = some (.int r) ∧ g = h') := by
  unfold b118_56 at e
  refine xo_aload_nQ (w := l3) rfl rfl ?_
  refine d_nn e (fun v1 g e1 => ?_)
  subst g
  replace e := e1
  clear e1
  refine d_getr rfl e (fun v2 e => ?_)
  refine d_nn e (fun v3 g e1 => ?_)
  subst g
  replace e := e1
  clear e1
  refine d_geti rfl e (fun v4 e => ?_)
  exact d_iret rfl e
def b118_9 (F : Nat) (l0 : Option Nat) (l1 : Int32) (l2 : Int32) : xm Int32 := mb (nn l0) fun v1 => mb (vc 0 v1) fun _ => mb (m119 F v1 l1) fun v2 => if l2 = (0 : Int32) then b118_56 F v2 else if l2 = (1 : Int32) then b118_64 F v2 else if l2 = (2 : Int32) then b118_69 F (some v1) l1 else if l2 = (3 : Int32) then b118_87 F v2 else if l2 = (4 : Int32) then b118_96 F v2 else if l2 = (5 : Int32) then b118_104 F v2 else b118_112 F
theorem t118_9 {sc : Nat × (Nat → Int32)} {F : Nat} {r : Int32} {h' : xv_H} {l0 : Option Nat} {l1 : Int32} {l2 : Int32} {d3 : Option Value} {h : xv_H} (e : b118_9 F l0 l1 l2 h = some (r, h')) : xx sc 118 9 [some (va_rf l0), some (.int l1), some (.int l2), d3] [] h (fun v g => v = some (.int r) ∧ g = h') := by
  unfold b118_9 at e
  refine xo_aload_nQ (w := l0) rfl rfl ?_
  refine xo_iload_n rfl rfl ?_
  refine d_nn e (fun v1 g e1 => ?_)
  subst g
  replace e := e1
  clear e1
  refine d_virtual_a (av := [.int l1]) (rest := []) rfl ⟨by decide, by decide⟩ rfl rfl (by simp [xv_fit, va_rf_cat, cat_int, cat_long, cat_ref, cat_null, show xt_mx 119 = 2 from rfl, show xt_lg 119 = [] from rfl]) (by simp [xv_room, va_rf_cat, cat_int, cat_long, cat_ref, cat_null]) (fun x0 h1 e1 => t119 e1) e (fun v2 h e => ?_)
  refine xo_astore_nQ (w := v2) rfl (Nat.le_of_ble_eq_true rfl) rfl ?_
  refine xo_iload_n rfl rfl ?_
  by_cases g0 : l2 = (0 : Int32)
  · rw [if_pos g0] at e
    refine xo_tabIn rfl (by rw [g0]; decide) (by rw [g0]; rfl) rfl ?_
    exact t118_56 e
  rw [if_neg g0] at e
  by_cases g1 : l2 = (1 : Int32)
  · rw [if_pos g1] at e
    refine xo_tabIn rfl (by rw [g1]; decide) (by rw [g1]; rfl) rfl ?_
    exact t118_64 e
  rw [if_neg g1] at e
  by_cases g2 : l2 = (2 : Int32)
  · rw [if_pos g2] at e
    refine xo_tabIn rfl (by rw [g2]; decide) (by rw [g2]; rfl) rfl ?_
    exact t118_69 e
  rw [if_neg g2] at e
  by_cases g3 : l2 = (3 : Int32)
  · rw [if_pos g3] at e
    refine xo_tabIn rfl (by rw [g3]; decide) (by rw [g3]; rfl) rfl ?_
    exact t118_87 e
  rw [if_neg g3] at e
  by_cases g4 : l2 = (4 : Int32)
  · rw [if_pos g4] at e
    refine xo_tabIn rfl (by rw [g4]; decide) (by rw [g4]; rfl) rfl ?_
    exact t118_96 e
  rw [if_neg g4] at e
  by_cases g5 : l2 = (5 : Int32)
  · rw [if_pos g5] at e
    refine xo_tabIn rfl (by rw [g5]; decide) (by rw [g5]; rfl) rfl ?_
    exact t118_104 e
  rw [if_neg g5] at e
  refine xo_tabOut rfl (sw_out 5 (by decide) (fun k hk => by rcases k with _ | _ | _ | _ | _ | _ | k <;> first | assumption | omega)) rfl ?_
  exact t118_112 e
def b118_7 (F : Nat) : xm Int32 := mr (-1 : Int32)
theorem t118_7 {sc : Nat × (Nat → Int32)} {F : Nat} {r : Int32} {h' : xv_H} {d0 d1 d2 d3 : Option Value} {h : xv_H} (e : b118_7 F h = some (r, h')) : xx sc 118 7 [d0, d1, d2, d3] [] h (fun v g => v = some (.int r) ∧ g = h') := by
  unfold b118_7 at e
  refine xo_iconstV (x := (-1)) rfl (by decide) ?_
  exact d_iret rfl e
def b118_0 (F : Nat) (l0 : Option Nat) (l1 : Int32) (l2 : Int32) : xm Int32 := mb (m117 F l1) fun v1 => if ¬ v1 = 0 then b118_9 F l0 l1 l2 else b118_7 F
theorem t118_0 {sc : Nat × (Nat → Int32)} {F : Nat} {r : Int32} {h' : xv_H} {l0 : Option Nat} {l1 : Int32} {l2 : Int32} {d3 : Option Value} {h : xv_H} (e : b118_0 F l0 l1 l2 h = some (r, h')) : xx sc 118 0 [some (va_rf l0), some (.int l1), some (.int l2), d3] [] h (fun v g => v = some (.int r) ∧ g = h') := by
  unfold b118_0 at e
  refine xo_iload_n rfl rfl ?_
  refine d_static_i (av := [.int l1]) (rest := []) rfl ⟨by decide, by decide, by decide⟩ rfl rfl (by simp [xv_fit, va_rf_cat, cat_int, cat_long, cat_ref, cat_null, show xt_mx 117 = 1 from rfl, show xt_lg 117 = [] from rfl]) (by simp [xv_room, va_rf_cat, cat_int, cat_long, cat_ref, cat_null]) (fun x0 h1 e1 => t117 e1) e (fun v1 h e => ?_)
  refine d_if_ne rfl rfl e (fun _ e => ?_) (fun _ e => ?_)
  · exact t118_9 e
  · exact t118_7 e
def m118 (F : Nat) (this : Nat) (p0 : Int32) (p1 : Int32) : xm Int32 := b118_0 F (some this) p0 p1
theorem t118 {sc : Nat × (Nat → Int32)} {F : Nat} {this : Nat} {p0 : Int32} {p1 : Int32} {h : xv_H} {r : Int32} {h' : xv_H} (e : m118 F this p0 p1 h = some (r, h')) : xr sc 118 [.ref this, .int p0, .int p1] h (fun v g => v = some (.int r) ∧ g = h') := by
  have e0 : xv_ent (xt_mx 118) [.ref this, .int p0, .int p1] = [some (va_rf (some this)), some (.int p0), some (.int p1), none] := by simp [xv_ent, xv_sl, va_rf_cat, cat_int, cat_long, cat_ref, cat_null, va_rf_some, show xt_mx 118 = 4 from rfl]
  unfold xr
  rw [e0]
  exact t118_0 e
-- CellTree.key(II)I
def b120_38 (F : Nat) (s0 : Int32) : xm Int32 := mr s0
theorem t120_38 {sc : Nat × (Nat → Int32)} {F : Nat} {r : Int32} {h' : xv_H} {s0 : Int32} {d0 d1 d2 d3 : Option Value} {h : xv_H} (e : b120_38 F s0 h = some (r, h')) : xx sc 120 38 [d0, d1, d2, d3] [.int s0] h (fun v g => v = some (.int r) ∧ g = h') := by
  unfold b120_38 at e
  exact d_iret rfl e
def b120_37 (F : Nat) : xm Int32 := b120_38 F (-1 : Int32)
theorem t120_37 {sc : Nat × (Nat → Int32)} {F : Nat} {r : Int32} {h' : xv_H} {d0 d1 d2 d3 : Option Value} {h : xv_H} (e : b120_37 F h = some (r, h')) : xx sc 120 37 [d0, d1, d2, d3] [] h (fun v g => v = some (.int r) ∧ g = h') := by
  unfold b120_37 at e
  refine xo_iconstV (x := (-1)) rfl (by decide) ?_
  exact t120_38 e
def b120_31 (F : Nat) (l2 : Int32) (l3 : Option Nat) : xm Int32 := mb (nn l3) fun v1 => mb (li v1 l2) fun v2 => b120_38 F v2
theorem t120_31 {sc : Nat × (Nat → Int32)} {F : Nat} {r : Int32} {h' : xv_H} {l2 : Int32} {l3 : Option Nat} {d0 d1 : Option Value} {h : xv_H} (e : b120_31 F l2 l3 h = some (r, h')) : xx sc 120 31 [d0, d1, some (.int l2), some (va_rf l3)] [] h (fun v g => v = some (.int r) ∧ g = h') := by
  unfold b120_31 at e
  refine xo_aload_nQ (w := l3) rfl rfl ?_
  refine xo_iload_n rfl rfl ?_
  refine d_nn e (fun v1 g e1 => ?_)
  subst g
  replace e := e1
  clear e1
  refine d_iald rfl e (fun v2 e => ?_)
  refine xo_goto rfl rfl ?_
  exact t120_38 e
def b120_25 (F : Nat) (l2 : Int32) (l3 : Option Nat) : xm Int32 := mb (nn l3) fun v1 => mb (len 100 0 v1) fun v2 => if v2 ≤ l2 then b120_37 F else b120_31 F l2 (some v1)
theorem t120_25 {sc : Nat × (Nat → Int32)} {F : Nat} {r : Int32} {h' : xv_H} {l2 : Int32} {l3 : Option Nat} {d0 d1 : Option Value} {h : xv_H} (e : b120_25 F l2 l3 h = some (r, h')) : xx sc 120 25 [d0, d1, some (.int l2), some (va_rf l3)] [] h (fun v g => v = some (.int r) ∧ g = h') := by
  unfold b120_25 at e
  refine xo_iload_n rfl rfl ?_
  refine xo_aload_nQ (w := l3) rfl rfl ?_
  refine d_nn e (fun v1 g e1 => ?_)
  subst g
  replace e := e1
  clear e1
  refine d_len rfl e (fun v2 e => ?_)
  refine d_icmp_ge rfl rfl e (fun _ e => ?_) (fun _ e => ?_)
  · exact t120_37 e
  · exact t120_31 e
def b120_9 (F : Nat) (l0 : Option Nat) (l1 : Int32) (l2 : Int32) : xm Int32 := mb (nn l0) fun v1 => mb (vc 0 v1) fun _ => mb (m119 F v1 l1) fun v2 => mb (nn v2) fun v3 => mb (gr 701 v3) fun v4 => mb (nn v4) fun v5 => mb (gr 603 v5) fun v6 => if l2 < 0 then b120_37 F else b120_25 F l2 v6
theorem t120_9 {sc : Nat × (Nat → Int32)} {F : Nat} {r : Int32} {h' : xv_H} {l0 : Option Nat} {l1 : Int32} {l2 : Int32} {d3 : Option Value} {h : xv_H} (e : b120_9 F l0 l1 l2 h = some (r, h')) : xx sc 120 9 [some (va_rf l0), some (.int l1), some (.int l2), d3] [] h (fun v g => v = some (.int r) ∧ g = h') := by
  unfold b120_9 at e
  refine xo_aload_nQ (w := l0) rfl rfl ?_
  refine xo_iload_n rfl rfl ?_
  refine d_nn e (fun v1 g e1 => ?_)
  subst g
  replace e := e1
  clear e1
  refine d_virtual_a (av := [.int l1]) (rest := []) rfl ⟨by decide, by decide⟩ rfl rfl (by simp [xv_fit, va_rf_cat, cat_int, cat_long, cat_ref, cat_null, show xt_mx 119 = 2 from rfl, show xt_lg 119 = [] from rfl]) (by simp [xv_room, va_rf_cat, cat_int, cat_long, cat_ref, cat_null]) (fun x0 h1 e1 => t119 e1) e (fun v2 h e => ?_)
  refine d_nn e (fun v3 g e1 => ?_)
  subst g
  replace e := e1
  clear e1
  refine d_getr rfl e (fun v4 e => ?_)
  refine d_nn e (fun v5 g e1 => ?_)
  subst g
  replace e := e1
  clear e1
  refine d_getr rfl e (fun v6 e => ?_)
  refine xo_astore_nQ (w := v6) rfl (Nat.le_of_ble_eq_true rfl) rfl ?_
  refine xo_iload_n rfl rfl ?_
  refine d_if_lt rfl rfl e (fun _ e => ?_) (fun _ e => ?_)
  · exact t120_37 e
  · exact t120_25 e
def b120_7 (F : Nat) : xm Int32 := mr (-1 : Int32)
theorem t120_7 {sc : Nat × (Nat → Int32)} {F : Nat} {r : Int32} {h' : xv_H} {d0 d1 d2 d3 : Option Value} {h : xv_H} (e : b120_7 F h = some (r, h')) : xx sc 120 7 [d0, d1, d2, d3] [] h (fun v g => v = some (.int r) ∧ g = h') := by
  unfold b120_7 at e
  refine xo_iconstV (x := (-1)) rfl (by decide) ?_
  exact d_iret rfl e
def b120_0 (F : Nat) (l0 : Option Nat) (l1 : Int32) (l2 : Int32) : xm Int32 := mb (m117 F l1) fun v1 => if ¬ v1 = 0 then b120_9 F l0 l1 l2 else b120_7 F
theorem t120_0 {sc : Nat × (Nat → Int32)} {F : Nat} {r : Int32} {h' : xv_H} {l0 : Option Nat} {l1 : Int32} {l2 : Int32} {d3 : Option Value} {h : xv_H} (e : b120_0 F l0 l1 l2 h = some (r, h')) : xx sc 120 0 [some (va_rf l0), some (.int l1), some (.int l2), d3] [] h (fun v g => v = some (.int r) ∧ g = h') := by
  unfold b120_0 at e
  refine xo_iload_n rfl rfl ?_
  refine d_static_i (av := [.int l1]) (rest := []) rfl ⟨by decide, by decide, by decide⟩ rfl rfl (by simp [xv_fit, va_rf_cat, cat_int, cat_long, cat_ref, cat_null, show xt_mx 117 = 1 from rfl, show xt_lg 117 = [] from rfl]) (by simp [xv_room, va_rf_cat, cat_int, cat_long, cat_ref, cat_null]) (fun x0 h1 e1 => t117 e1) e (fun v1 h e => ?_)
  refine d_if_ne rfl rfl e (fun _ e => ?_) (fun _ e => ?_)
  · exact t120_9 e
  · exact t120_7 e
def m120 (F : Nat) (this : Nat) (p0 : Int32) (p1 : Int32) : xm Int32 := b120_0 F (some this) p0 p1
theorem t120 {sc : Nat × (Nat → Int32)} {F : Nat} {this : Nat} {p0 : Int32} {p1 : Int32} {h : xv_H} {r : Int32} {h' : xv_H} (e : m120 F this p0 p1 h = some (r, h')) : xr sc 120 [.ref this, .int p0, .int p1] h (fun v g => v = some (.int r) ∧ g = h') := by
  have e0 : xv_ent (xt_mx 120) [.ref this, .int p0, .int p1] = [some (va_rf (some this)), some (.int p0), some (.int p1), none] := by simp [xv_ent, xv_sl, va_rf_cat, cat_int, cat_long, cat_ref, cat_null, va_rf_some, show xt_mx 120 = 4 from rfl]
  unfold xr
  rw [e0]
  exact t120_0 e
-- CellTree.item(II)I
def b121_38 (F : Nat) (s0 : Int32) : xm Int32 := mr s0
theorem t121_38 {sc : Nat × (Nat → Int32)} {F : Nat} {r : Int32} {h' : xv_H} {s0 : Int32} {d0 d1 d2 d3 : Option Value} {h : xv_H} (e : b121_38 F s0 h = some (r, h')) : xx sc 121 38 [d0, d1, d2, d3] [.int s0] h (fun v g => v = some (.int r) ∧ g = h') := by
  unfold b121_38 at e
  exact d_iret rfl e
def b121_37 (F : Nat) : xm Int32 := b121_38 F (0 : Int32)
theorem t121_37 {sc : Nat × (Nat → Int32)} {F : Nat} {r : Int32} {h' : xv_H} {d0 d1 d2 d3 : Option Value} {h : xv_H} (e : b121_37 F h = some (r, h')) : xx sc 121 37 [d0, d1, d2, d3] [] h (fun v g => v = some (.int r) ∧ g = h') := by
  unfold b121_37 at e
  refine xo_iconstV (x := 0) rfl (by decide) ?_
  exact t121_38 e
def b121_31 (F : Nat) (l2 : Int32) (l3 : Option Nat) : xm Int32 := mb (nn l3) fun v1 => mb (li v1 l2) fun v2 => b121_38 F v2
theorem t121_31 {sc : Nat × (Nat → Int32)} {F : Nat} {r : Int32} {h' : xv_H} {l2 : Int32} {l3 : Option Nat} {d0 d1 : Option Value} {h : xv_H} (e : b121_31 F l2 l3 h = some (r, h')) : xx sc 121 31 [d0, d1, some (.int l2), some (va_rf l3)] [] h (fun v g => v = some (.int r) ∧ g = h') := by
  unfold b121_31 at e
  refine xo_aload_nQ (w := l3) rfl rfl ?_
  refine xo_iload_n rfl rfl ?_
  refine d_nn e (fun v1 g e1 => ?_)
  subst g
  replace e := e1
  clear e1
  refine d_iald rfl e (fun v2 e => ?_)
  refine xo_goto rfl rfl ?_
  exact t121_38 e
def b121_25 (F : Nat) (l2 : Int32) (l3 : Option Nat) : xm Int32 := mb (nn l3) fun v1 => mb (len 100 0 v1) fun v2 => if v2 ≤ l2 then b121_37 F else b121_31 F l2 (some v1)
theorem t121_25 {sc : Nat × (Nat → Int32)} {F : Nat} {r : Int32} {h' : xv_H} {l2 : Int32} {l3 : Option Nat} {d0 d1 : Option Value} {h : xv_H} (e : b121_25 F l2 l3 h = some (r, h')) : xx sc 121 25 [d0, d1, some (.int l2), some (va_rf l3)] [] h (fun v g => v = some (.int r) ∧ g = h') := by
  unfold b121_25 at e
  refine xo_iload_n rfl rfl ?_
  refine xo_aload_nQ (w := l3) rfl rfl ?_
  refine d_nn e (fun v1 g e1 => ?_)
  subst g
  replace e := e1
  clear e1
  refine d_len rfl e (fun v2 e => ?_)
  refine d_icmp_ge rfl rfl e (fun _ e => ?_) (fun _ e => ?_)
  · exact t121_37 e
  · exact t121_31 e
def b121_9 (F : Nat) (l0 : Option Nat) (l1 : Int32) (l2 : Int32) : xm Int32 := mb (nn l0) fun v1 => mb (vc 0 v1) fun _ => mb (m119 F v1 l1) fun v2 => mb (nn v2) fun v3 => mb (gr 701 v3) fun v4 => mb (nn v4) fun v5 => mb (gr 604 v5) fun v6 => if l2 < 0 then b121_37 F else b121_25 F l2 v6
theorem t121_9 {sc : Nat × (Nat → Int32)} {F : Nat} {r : Int32} {h' : xv_H} {l0 : Option Nat} {l1 : Int32} {l2 : Int32} {d3 : Option Value} {h : xv_H} (e : b121_9 F l0 l1 l2 h = some (r, h')) : xx sc 121 9 [some (va_rf l0), some (.int l1), some (.int l2), d3] [] h (fun v g => v = some (.int r) ∧ g = h') := by
  unfold b121_9 at e
  refine xo_aload_nQ (w := l0) rfl rfl ?_
  refine xo_iload_n rfl rfl ?_
  refine d_nn e (fun v1 g e1 => ?_)
  subst g
  replace e := e1
  clear e1
  refine d_virtual_a (av := [.int l1]) (rest := []) rfl ⟨by decide, by decide⟩ rfl rfl (by simp [xv_fit, va_rf_cat, cat_int, cat_long, cat_ref, cat_null, show xt_mx 119 = 2 from rfl, show xt_lg 119 = [] from rfl]) (by simp [xv_room, va_rf_cat, cat_int, cat_long, cat_ref, cat_null]) (fun x0 h1 e1 => t119 e1) e (fun v2 h e => ?_)
  refine d_nn e (fun v3 g e1 => ?_)
  subst g
  replace e := e1
  clear e1
  refine d_getr rfl e (fun v4 e => ?_)
  refine d_nn e (fun v5 g e1 => ?_)
  subst g
  replace e := e1
  clear e1
  refine d_getr rfl e (fun v6 e => ?_)
  refine xo_astore_nQ (w := v6) rfl (Nat.le_of_ble_eq_true rfl) rfl ?_
  refine xo_iload_n rfl rfl ?_
  refine d_if_lt rfl rfl e (fun _ e => ?_) (fun _ e => ?_)
  · exact t121_37 e
  · exact t121_25 e
def b121_7 (F : Nat) : xm Int32 := mr (0 : Int32)
theorem t121_7 {sc : Nat × (Nat → Int32)} {F : Nat} {r : Int32} {h' : xv_H} {d0 d1 d2 d3 : Option Value} {h : xv_H} (e : b121_7 F h = some (r, h')) : xx sc 121 7 [d0, d1, d2, d3] [] h (fun v g => v = some (.int r) ∧ g = h') := by
  unfold b121_7 at e
  refine xo_iconstV (x := 0) rfl (by decide) ?_
  exact d_iret rfl e
def b121_0 (F : Nat) (l0 : Option Nat) (l1 : Int32) (l2 : Int32) : xm Int32 := mb (m117 F l1) fun v1 => if ¬ v1 = 0 then b121_9 F l0 l1 l2 else b121_7 F
theorem t121_0 {sc : Nat × (Nat → Int32)} {F : Nat} {r : Int32} {h' : xv_H} {l0 : Option Nat} {l1 : Int32} {l2 : Int32} {d3 : Option Value} {h : xv_H} (e : b121_0 F l0 l1 l2 h = some (r, h')) : xx sc 121 0 [some (va_rf l0), some (.int l1), some (.int l2), d3] [] h (fun v g => v = some (.int r) ∧ g = h') := by
  unfold b121_0 at e
  refine xo_iload_n rfl rfl ?_
  refine d_static_i (av := [.int l1]) (rest := []) rfl ⟨by decide, by decide, by decide⟩ rfl rfl (by simp [xv_fit, va_rf_cat, cat_int, cat_long, cat_ref, cat_null, show xt_mx 117 = 1 from rfl, show xt_lg 117 = [] from rfl]) (by simp [xv_room, va_rf_cat, cat_int, cat_long, cat_ref, cat_null]) (fun x0 h1 e1 => t117 e1) e (fun v1 h e => ?_)
  refine d_if_ne rfl rfl e (fun _ e => ?_) (fun _ e => ?_)
  · exact t121_9 e
  · exact t121_7 e
def m121 (F : Nat) (this : Nat) (p0 : Int32) (p1 : Int32) : xm Int32 := b121_0 F (some this) p0 p1
theorem t121 {sc : Nat × (Nat → Int32)} {F : Nat} {this : Nat} {p0 : Int32} {p1 : Int32} {h : xv_H} {r : Int32} {h' : xv_H} (e : m121 F this p0 p1 h = some (r, h')) : xr sc 121 [.ref this, .int p0, .int p1] h (fun v g => v = some (.int r) ∧ g = h') := by
  have e0 : xv_ent (xt_mx 121) [.ref this, .int p0, .int p1] = [some (va_rf (some this)), some (.int p0), some (.int p1), none] := by simp [xv_ent, xv_sl, va_rf_cat, cat_int, cat_long, cat_ref, cat_null, va_rf_some, show xt_mx 121 = 4 from rfl]
  unfold xr
  rw [e0]
  exact t121_0 e
-- CellTree.remembers(II)I
def b122_22 (F : Nat) (l0 : Option Nat) (l1 : Int32) (l2 : Int32) : xm Int32 := mb (nn l0) fun v1 => mb (gr 0 v1) fun v2 => mb (nn v2) fun v3 => mb (lr 104 v3 l1) fun v4 => mb (nn v4) fun v5 => mb (gr 303 v5) fun v6 => mb (nn v6) fun v7 => mb (lb v7 l2) fun v8 => mr v8
theorem t122_22 {sc : Nat × (Nat → Int32)} {F : Nat} {r : Int32} {h' : xv_H} {l0 : Option Nat} {l1 : Int32} {l2 : Int32} {h : xv_H} (e : b122_22 F l0 l1 l2 h = some (r, h')) : xx sc 122 22 [some (va_rf l0), some (.int l1), some (.int l2)] [] h (fun v g => v = some (.int r) ∧ g = h') := by
  unfold b122_22 at e
  refine xo_aload_nQ (w := l0) rfl rfl ?_
  refine d_nn e (fun v1 g e1 => ?_)
  subst g
  replace e := e1
  clear e1
  refine d_getr rfl e (fun v2 e => ?_)
  refine xo_iload_n rfl rfl ?_
  refine d_nn e (fun v3 g e1 => ?_)
  subst g
  replace e := e1
  clear e1
  refine d_aald rfl e (fun v4 e => ?_)
  refine d_nn e (fun v5 g e1 => ?_)
  subst g
  replace e := e1
  clear e1
  refine d_getr rfl e (fun v6 e => ?_)
  refine xo_iload_n rfl rfl ?_
  refine d_nn e (fun v7 g e1 => ?_)
  subst g
  replace e := e1
  clear e1
  refine d_bald rfl e (fun v8 e => ?_)
  exact d_iret rfl e
def b122_20 (F : Nat) : xm Int32 := mr (-1 : Int32)
theorem t122_20 {sc : Nat × (Nat → Int32)} {F : Nat} {r : Int32} {h' : xv_H} {d0 d1 d2 : Option Value} {h : xv_H} (e : b122_20 F h = some (r, h')) : xx sc 122 20 [d0, d1, d2] [] h (fun v g => v = some (.int r) ∧ g = h') := by
  unfold b122_20 at e
  refine xo_iconstV (x := (-1)) rfl (by decide) ?_
  exact d_iret rfl e
def b122_12 (F : Nat) (l0 : Option Nat) (l1 : Int32) (l2 : Int32) : xm Int32 := mb (nn l0) fun v1 => mb (gi 4 v1) fun v2 => if l2 ≤ v2 then b122_22 F (some v1) l1 l2 else b122_20 F
theorem t122_12 {sc : Nat × (Nat → Int32)} {F : Nat} {r : Int32} {h' : xv_H} {l0 : Option Nat} {l1 : Int32} {l2 : Int32} {h : xv_H} (e : b122_12 F l0 l1 l2 h = some (r, h')) : xx sc 122 12 [some (va_rf l0), some (.int l1), some (.int l2)] [] h (fun v g => v = some (.int r) ∧ g = h') := by
  unfold b122_12 at e
  refine xo_iload_n rfl rfl ?_
  refine xo_aload_nQ (w := l0) rfl rfl ?_
  refine d_nn e (fun v1 g e1 => ?_)
  subst g
  replace e := e1
  clear e1
  refine d_geti rfl e (fun v2 e => ?_)
  refine d_icmp_le rfl rfl e (fun _ e => ?_) (fun _ e => ?_)
  · exact t122_22 e
  · exact t122_20 e
def b122_7 (F : Nat) (l0 : Option Nat) (l1 : Int32) (l2 : Int32) : xm Int32 := if l2 < (1 : Int32) then b122_20 F else b122_12 F l0 l1 l2
theorem t122_7 {sc : Nat × (Nat → Int32)} {F : Nat} {r : Int32} {h' : xv_H} {l0 : Option Nat} {l1 : Int32} {l2 : Int32} {h : xv_H} (e : b122_7 F l0 l1 l2 h = some (r, h')) : xx sc 122 7 [some (va_rf l0), some (.int l1), some (.int l2)] [] h (fun v g => v = some (.int r) ∧ g = h') := by
  unfold b122_7 at e
  refine xo_iload_n rfl rfl ?_
  refine xo_iconstV (x := 1) rfl (by decide) ?_
  refine d_icmp_lt rfl rfl e (fun _ e => ?_) (fun _ e => ?_)
  · exact t122_20 e
  · exact t122_12 e
def b122_0 (F : Nat) (l0 : Option Nat) (l1 : Int32) (l2 : Int32) : xm Int32 := mb (m106 F l1) fun v1 => if v1 = 0 then b122_20 F else b122_7 F l0 l1 l2
theorem t122_0 {sc : Nat × (Nat → Int32)} {F : Nat} {r : Int32} {h' : xv_H} {l0 : Option Nat} {l1 : Int32} {l2 : Int32} {h : xv_H} (e : b122_0 F l0 l1 l2 h = some (r, h')) : xx sc 122 0 [some (va_rf l0), some (.int l1), some (.int l2)] [] h (fun v g => v = some (.int r) ∧ g = h') := by
  unfold b122_0 at e
  refine xo_iload_n rfl rfl ?_
  refine d_static_i (av := [.int l1]) (rest := []) rfl ⟨by decide, by decide, by decide⟩ rfl rfl (by simp [xv_fit, va_rf_cat, cat_int, cat_long, cat_ref, cat_null, show xt_mx 106 = 1 from rfl, show xt_lg 106 = [] from rfl]) (by simp [xv_room, va_rf_cat, cat_int, cat_long, cat_ref, cat_null]) (fun x0 h1 e1 => t106 e1) e (fun v1 h e => ?_)
  refine d_if_eq rfl rfl e (fun _ e => ?_) (fun _ e => ?_)
  · exact t122_20 e
  · exact t122_7 e
def m122 (F : Nat) (this : Nat) (p0 : Int32) (p1 : Int32) : xm Int32 := b122_0 F (some this) p0 p1
theorem t122 {sc : Nat × (Nat → Int32)} {F : Nat} {this : Nat} {p0 : Int32} {p1 : Int32} {h : xv_H} {r : Int32} {h' : xv_H} (e : m122 F this p0 p1 h = some (r, h')) : xr sc 122 [.ref this, .int p0, .int p1] h (fun v g => v = some (.int r) ∧ g = h') := by
  have e0 : xv_ent (xt_mx 122) [.ref this, .int p0, .int p1] = [some (va_rf (some this)), some (.int p0), some (.int p1)] := by simp [xv_ent, xv_sl, va_rf_cat, cat_int, cat_long, cat_ref, cat_null, va_rf_some, show xt_mx 122 = 3 from rfl]
  unfold xr
  rw [e0]
  exact t122_0 e
-- CellTreeModel.plain(III)J
def b124_0 (F : Nat) (l0 : Int32) (l1 : Int32) (l2 : Int32) : xm Int64 := mr (((l0).toInt64 + ((16 : Int64) * (l1).toInt64)) + ((2048 : Int64) * (l2).toInt64))
theorem t124_0 {sc : Nat × (Nat → Int32)} {F : Nat} {r : Int64} {h' : xv_H} {l0 : Int32} {l1 : Int32} {l2 : Int32} {h : xv_H} (e : b124_0 F l0 l1 l2 h = some (r, h')) : xx sc 124 0 [some (.int l0), some (.int l1), some (.int l2)] [] h (fun v g => v = some (.long r) ∧ g = h') := by
  unfold b124_0 at e
  refine xo_iload_n rfl rfl ?_
  refine xo_i2l rfl ?_
  refine xo_ldc2V (u := 16) rfl (by decide) ?_
  refine xo_iload_n rfl rfl ?_
  refine xo_i2l rfl ?_
  refine xo_lmul rfl ?_
  refine xo_ladd rfl ?_
  refine xo_ldc2V (u := 2048) rfl (by decide) ?_
  refine xo_iload_n rfl rfl ?_
  refine xo_i2l rfl ?_
  refine xo_lmul rfl ?_
  refine xo_ladd rfl ?_
  exact d_lret rfl e
def m124 (F : Nat) (p0 : Int32) (p1 : Int32) (p2 : Int32) : xm Int64 := b124_0 F p0 p1 p2
theorem t124 {sc : Nat × (Nat → Int32)} {F : Nat} {p0 : Int32} {p1 : Int32} {p2 : Int32} {h : xv_H} {r : Int64} {h' : xv_H} (e : m124 F p0 p1 p2 h = some (r, h')) : xr sc 124 [.int p0, .int p1, .int p2] h (fun v g => v = some (.long r) ∧ g = h') := by
  have e0 : xv_ent (xt_mx 124) [.int p0, .int p1, .int p2] = [some (.int p0), some (.int p1), some (.int p2)] := by simp [xv_ent, xv_sl, va_rf_cat, cat_int, cat_long, cat_ref, cat_null, va_rf_some, show xt_mx 124 = 3 from rfl]
  unfold xr
  rw [e0]
  exact t124_0 e
-- CellTreeModel.<init>()V
def b123_0 (F : Nat) (l0 : Option Nat) : xm Unit := mb (nn l0) fun v1 => mb (na 102 (5 : Int32)) fun v2 => mb (pr 900 v1 (some v2)) fun _ => mb (na 103 (24 : Int32)) fun v3 => mb (pr 901 v1 (some v3)) fun _ => mb (na 100 (24 : Int32)) fun v4 => mb (pr 902 v1 (some v4)) fun _ => mb (na 100 (72 : Int32)) fun v5 => mb (pr 903 v1 (some v5)) fun _ => mb (na 100 (520 : Int32)) fun v6 => mb (pr 905 v1 (some v6)) fun _ => mb (na 100 (520 : Int32)) fun v7 => mb (pr 906 v1 (some v7)) fun _ => mb (na 100 (520 : Int32)) fun v8 => mb (pr 907 v1 (some v8)) fun _ => mb (na 101 (1560 : Int32)) fun v9 => mb (pr 908 v1 (some v9)) fun _ => mb (na 101 (1600 : Int32)) fun v10 => mb (pr 910 v1 (some v10)) fun _ => mb (na 101 (1600 : Int32)) fun v11 => mb (pr 911 v1 (some v11)) fun _ => mb (na 100 (1600 : Int32)) fun v12 => mb (pr 912 v1 (some v12)) fun _ => mb (na 103 (1600 : Int32)) fun v13 => mb (pr 913 v1 (some v13)) fun _ => mb (na 100 (4800 : Int32)) fun v14 => mb (pr 914 v1 (some v14)) fun _ => mb (na 100 (40 : Int32)) fun v15 => mb (pr 916 v1 (some v15)) fun _ => mb (na 100 (40 : Int32)) fun v16 => mb (pr 917 v1 (some v16)) fun _ => mb (na 100 (40 : Int32)) fun v17 => mb (pr 918 v1 (some v17)) fun _ => mb (na 100 (40 : Int32)) fun v18 => mb (pr 919 v1 (some v18)) fun _ => mb (na 103 (40 : Int32)) fun v19 => mb (pr 920 v1 (some v19)) fun _ => mb (na 100 (120 : Int32)) fun v20 => mb (pr 921 v1 (some v20)) fun _ => mb (na 100 (48 : Int32)) fun v21 => mb (pr 922 v1 (some v21)) fun _ => mb (na 103 (48 : Int32)) fun v22 => mb (pr 923 v1 (some v22)) fun _ => mb (na 100 (2 : Int32)) fun v23 => mb (pr 924 v1 (some v23)) fun _ => mb (na 100 (2 : Int32)) fun v24 => mb (pr 925 v1 (some v24)) fun _ => mb (na 100 (2 : Int32)) fun v25 => mb (pr 926 v1 (some v25)) fun _ => mb (na 100 (2 : Int32)) fun v26 => mb (pr 927 v1 (some v26)) fun _ => mb (na 100 (2 : Int32)) fun v27 => mb (pr 928 v1 (some v27)) fun _ => mb (na 100 (2 : Int32)) fun v28 => mb (pr 929 v1 (some v28)) fun _ => mb (na 100 (2 : Int32)) fun v29 => mb (pr 930 v1 (some v29)) fun _ => mb (na 100 (2 : Int32)) fun v30 => mb (pr 931 v1 (some v30)) fun _ => mb (na 100 (2 : Int32)) fun v31 => mb (pr 932 v1 (some v31)) fun _ => mb (na 102 (2 : Int32)) fun v32 => mb (pr 933 v1 (some v32)) fun _ => mb (na 100 (2 : Int32)) fun v33 => mb (pr 934 v1 (some v33)) fun _ => mb (na 100 (2 : Int32)) fun v34 => mb (pr 935 v1 (some v34)) fun _ => mb (na 100 (2 : Int32)) fun v35 => mb (pr 936 v1 (some v35)) fun _ => mb (na 100 (48 : Int32)) fun v36 => mb (pr 937 v1 (some v36)) fun _ => mb (na 100 (2 : Int32)) fun v37 => mb (pr 938 v1 (some v37)) fun _ => mb (na 100 (2 : Int32)) fun v38 => mb (pr 939 v1 (some v38)) fun _ => mb (na 100 (12 : Int32)) fun v39 => mb (pr 940 v1 (some v39)) fun _ => mb (na 100 (12 : Int32)) fun v40 => mb (pr 941 v1 (some v40)) fun _ => mb (gr 901 v1) fun v41 => mb (m124 F (1 : Int32) (0 : Int32) (100 : Int32)) fun v42 => mb (nn v41) fun v43 => mb (sl v43 (0 : Int32) v42) fun _ => mb (gr 924 v1) fun v44 => mb (nn v44) fun v45 => mb (si v45 (0 : Int32) (1 : Int32)) fun _ => mb (gr 924 v1) fun v46 => mb (nn v46) fun v47 => mb (si v47 (1 : Int32) (9 : Int32)) fun _ => mr ()
theorem t123_0 {sc : Nat × (Nat → Int32)} {F : Nat} {r : Unit} {h' : xv_H} {l0 : Option Nat} {h : xv_H} (e : b123_0 F l0 h = some (r, h')) : xx sc 123 0 [some (va_rf l0)] [] h (fun v g => v = none ∧ g = h') := by
  unfold b123_0 at e
  refine xo_aload_nQ (w := l0) rfl rfl ?_
  refine d_nn e (fun v1 g e1 => ?_)
  subst g
  replace e := e1
  clear e1
  refine xo_init rfl (by simp [xv_room, va_rf_cat, cat_int, cat_long, cat_ref, cat_null]) ?_
  refine xo_aload_nQ (w := (some v1)) rfl rfl ?_
  refine xo_iconstV (x := 5) rfl (by decide) ?_
  refine d_newa rfl e (fun v2 h e => ?_)
  refine d_putr (w := (some v2)) rfl e (fun h e => ?_)
  refine xo_aload_nQ (w := (some v1)) rfl rfl ?_
  refine xo_bipushV (x := 24) rfl (by decide) ?_
  refine d_newa rfl e (fun v3 h e => ?_)
  refine d_putr (w := (some v3)) rfl e (fun h e => ?_)
  refine xo_aload_nQ (w := (some v1)) rfl rfl ?_
  refine xo_bipushV (x := 24) rfl (by decide) ?_
  refine d_newa rfl e (fun v4 h e => ?_)
  refine d_putr (w := (some v4)) rfl e (fun h e => ?_)
  refine xo_aload_nQ (w := (some v1)) rfl rfl ?_
  refine xo_bipushV (x := 72) rfl (by decide) ?_
  refine d_newa rfl e (fun v5 h e => ?_)
  refine d_putr (w := (some v5)) rfl e (fun h e => ?_)
  refine xo_aload_nQ (w := (some v1)) rfl rfl ?_
  refine xo_sipushV (x := 520) rfl (by decide) ?_
  refine d_newa rfl e (fun v6 h e => ?_)
  refine d_putr (w := (some v6)) rfl e (fun h e => ?_)
  refine xo_aload_nQ (w := (some v1)) rfl rfl ?_
  refine xo_sipushV (x := 520) rfl (by decide) ?_
  refine d_newa rfl e (fun v7 h e => ?_)
  refine d_putr (w := (some v7)) rfl e (fun h e => ?_)
  refine xo_aload_nQ (w := (some v1)) rfl rfl ?_
  refine xo_sipushV (x := 520) rfl (by decide) ?_
  refine d_newa rfl e (fun v8 h e => ?_)
  refine d_putr (w := (some v8)) rfl e (fun h e => ?_)
  refine xo_aload_nQ (w := (some v1)) rfl rfl ?_
  refine xo_sipushV (x := 1560) rfl (by decide) ?_
  refine d_newa rfl e (fun v9 h e => ?_)
  refine d_putr (w := (some v9)) rfl e (fun h e => ?_)
  refine xo_aload_nQ (w := (some v1)) rfl rfl ?_
  refine xo_sipushV (x := 1600) rfl (by decide) ?_
  refine d_newa rfl e (fun v10 h e => ?_)
  refine d_putr (w := (some v10)) rfl e (fun h e => ?_)
  refine xo_aload_nQ (w := (some v1)) rfl rfl ?_
  refine xo_sipushV (x := 1600) rfl (by decide) ?_
  refine d_newa rfl e (fun v11 h e => ?_)
  refine d_putr (w := (some v11)) rfl e (fun h e => ?_)
  refine xo_aload_nQ (w := (some v1)) rfl rfl ?_
  refine xo_sipushV (x := 1600) rfl (by decide) ?_
  refine d_newa rfl e (fun v12 h e => ?_)
  refine d_putr (w := (some v12)) rfl e (fun h e => ?_)
  refine xo_aload_nQ (w := (some v1)) rfl rfl ?_
  refine xo_sipushV (x := 1600) rfl (by decide) ?_
  refine d_newa rfl e (fun v13 h e => ?_)
  refine d_putr (w := (some v13)) rfl e (fun h e => ?_)
  refine xo_aload_nQ (w := (some v1)) rfl rfl ?_
  refine xo_sipushV (x := 4800) rfl (by decide) ?_
  refine d_newa rfl e (fun v14 h e => ?_)
  refine d_putr (w := (some v14)) rfl e (fun h e => ?_)
  refine xo_aload_nQ (w := (some v1)) rfl rfl ?_
  refine xo_bipushV (x := 40) rfl (by decide) ?_
  refine d_newa rfl e (fun v15 h e => ?_)
  refine d_putr (w := (some v15)) rfl e (fun h e => ?_)
  refine xo_aload_nQ (w := (some v1)) rfl rfl ?_
  refine xo_bipushV (x := 40) rfl (by decide) ?_
  refine d_newa rfl e (fun v16 h e => ?_)
  refine d_putr (w := (some v16)) rfl e (fun h e => ?_)
  refine xo_aload_nQ (w := (some v1)) rfl rfl ?_
  refine xo_bipushV (x := 40) rfl (by decide) ?_
  refine d_newa rfl e (fun v17 h e => ?_)
  refine d_putr (w := (some v17)) rfl e (fun h e => ?_)
  refine xo_aload_nQ (w := (some v1)) rfl rfl ?_
  refine xo_bipushV (x := 40) rfl (by decide) ?_
  refine d_newa rfl e (fun v18 h e => ?_)
  refine d_putr (w := (some v18)) rfl e (fun h e => ?_)
  refine xo_aload_nQ (w := (some v1)) rfl rfl ?_
  refine xo_bipushV (x := 40) rfl (by decide) ?_
  refine d_newa rfl e (fun v19 h e => ?_)
  refine d_putr (w := (some v19)) rfl e (fun h e => ?_)
  refine xo_aload_nQ (w := (some v1)) rfl rfl ?_
  refine xo_bipushV (x := 120) rfl (by decide) ?_
  refine d_newa rfl e (fun v20 h e => ?_)
  refine d_putr (w := (some v20)) rfl e (fun h e => ?_)
  refine xo_aload_nQ (w := (some v1)) rfl rfl ?_
  refine xo_bipushV (x := 48) rfl (by decide) ?_
  refine d_newa rfl e (fun v21 h e => ?_)
  refine d_putr (w := (some v21)) rfl e (fun h e => ?_)
  refine xo_aload_nQ (w := (some v1)) rfl rfl ?_
  refine xo_bipushV (x := 48) rfl (by decide) ?_
  refine d_newa rfl e (fun v22 h e => ?_)
  refine d_putr (w := (some v22)) rfl e (fun h e => ?_)
  refine xo_aload_nQ (w := (some v1)) rfl rfl ?_
  refine xo_iconstV (x := 2) rfl (by decide) ?_
  refine d_newa rfl e (fun v23 h e => ?_)
  refine d_putr (w := (some v23)) rfl e (fun h e => ?_)
  refine xo_aload_nQ (w := (some v1)) rfl rfl ?_
  refine xo_iconstV (x := 2) rfl (by decide) ?_
  refine d_newa rfl e (fun v24 h e => ?_)
  refine d_putr (w := (some v24)) rfl e (fun h e => ?_)
  refine xo_aload_nQ (w := (some v1)) rfl rfl ?_
  refine xo_iconstV (x := 2) rfl (by decide) ?_
  refine d_newa rfl e (fun v25 h e => ?_)
  refine d_putr (w := (some v25)) rfl e (fun h e => ?_)
  refine xo_aload_nQ (w := (some v1)) rfl rfl ?_
  refine xo_iconstV (x := 2) rfl (by decide) ?_
  refine d_newa rfl e (fun v26 h e => ?_)
  refine d_putr (w := (some v26)) rfl e (fun h e => ?_)
  refine xo_aload_nQ (w := (some v1)) rfl rfl ?_
  refine xo_iconstV (x := 2) rfl (by decide) ?_
  refine d_newa rfl e (fun v27 h e => ?_)
  refine d_putr (w := (some v27)) rfl e (fun h e => ?_)
  refine xo_aload_nQ (w := (some v1)) rfl rfl ?_
  refine xo_iconstV (x := 2) rfl (by decide) ?_
  refine d_newa rfl e (fun v28 h e => ?_)
  refine d_putr (w := (some v28)) rfl e (fun h e => ?_)
  refine xo_aload_nQ (w := (some v1)) rfl rfl ?_
  refine xo_iconstV (x := 2) rfl (by decide) ?_
  refine d_newa rfl e (fun v29 h e => ?_)
  refine d_putr (w := (some v29)) rfl e (fun h e => ?_)
  refine xo_aload_nQ (w := (some v1)) rfl rfl ?_
  refine xo_iconstV (x := 2) rfl (by decide) ?_
  refine d_newa rfl e (fun v30 h e => ?_)
  refine d_putr (w := (some v30)) rfl e (fun h e => ?_)
  refine xo_aload_nQ (w := (some v1)) rfl rfl ?_
  refine xo_iconstV (x := 2) rfl (by decide) ?_
  refine d_newa rfl e (fun v31 h e => ?_)
  refine d_putr (w := (some v31)) rfl e (fun h e => ?_)
  refine xo_aload_nQ (w := (some v1)) rfl rfl ?_
  refine xo_iconstV (x := 2) rfl (by decide) ?_
  refine d_newa rfl e (fun v32 h e => ?_)
  refine d_putr (w := (some v32)) rfl e (fun h e => ?_)
  refine xo_aload_nQ (w := (some v1)) rfl rfl ?_
  refine xo_iconstV (x := 2) rfl (by decide) ?_
  refine d_newa rfl e (fun v33 h e => ?_)
  refine d_putr (w := (some v33)) rfl e (fun h e => ?_)
  refine xo_aload_nQ (w := (some v1)) rfl rfl ?_
  refine xo_iconstV (x := 2) rfl (by decide) ?_
  refine d_newa rfl e (fun v34 h e => ?_)
  refine d_putr (w := (some v34)) rfl e (fun h e => ?_)
  refine xo_aload_nQ (w := (some v1)) rfl rfl ?_
  refine xo_iconstV (x := 2) rfl (by decide) ?_
  refine d_newa rfl e (fun v35 h e => ?_)
  refine d_putr (w := (some v35)) rfl e (fun h e => ?_)
  refine xo_aload_nQ (w := (some v1)) rfl rfl ?_
  refine xo_bipushV (x := 48) rfl (by decide) ?_
  refine d_newa rfl e (fun v36 h e => ?_)
  refine d_putr (w := (some v36)) rfl e (fun h e => ?_)
  refine xo_aload_nQ (w := (some v1)) rfl rfl ?_
  refine xo_iconstV (x := 2) rfl (by decide) ?_
  refine d_newa rfl e (fun v37 h e => ?_)
  refine d_putr (w := (some v37)) rfl e (fun h e => ?_)
  refine xo_aload_nQ (w := (some v1)) rfl rfl ?_
  refine xo_iconstV (x := 2) rfl (by decide) ?_
  refine d_newa rfl e (fun v38 h e => ?_)
  refine d_putr (w := (some v38)) rfl e (fun h e => ?_)
  refine xo_aload_nQ (w := (some v1)) rfl rfl ?_
  refine xo_bipushV (x := 12) rfl (by decide) ?_
  refine d_newa rfl e (fun v39 h e => ?_)
  refine d_putr (w := (some v39)) rfl e (fun h e => ?_)
  refine xo_aload_nQ (w := (some v1)) rfl rfl ?_
  refine xo_bipushV (x := 12) rfl (by decide) ?_
  refine d_newa rfl e (fun v40 h e => ?_)
  refine d_putr (w := (some v40)) rfl e (fun h e => ?_)
  refine xo_aload_nQ (w := (some v1)) rfl rfl ?_
  refine d_getr rfl e (fun v41 e => ?_)
  refine xo_iconstV (x := 0) rfl (by decide) ?_
  refine xo_iconstV (x := 1) rfl (by decide) ?_
  refine xo_iconstV (x := 0) rfl (by decide) ?_
  refine xo_bipushV (x := 100) rfl (by decide) ?_
  refine d_static_l (av := [.int (1 : Int32), .int (0 : Int32), .int (100 : Int32)]) (rest := [.int (0 : Int32), va_rf v41]) rfl ⟨by decide, by decide, by decide⟩ rfl rfl (by simp [xv_fit, va_rf_cat, cat_int, cat_long, cat_ref, cat_null, show xt_mx 124 = 3 from rfl, show xt_lg 124 = [] from rfl]) (by simp [xv_room, va_rf_cat, cat_int, cat_long, cat_ref, cat_null]) (fun x0 h1 e1 => t124 e1) e (fun v42 h e => ?_)
  refine d_nn e (fun v43 g e1 => ?_)
  subst g
  replace e := e1
  clear e1
  refine d_last rfl e (fun h e => ?_)
  refine xo_aload_nQ (w := (some v1)) rfl rfl ?_
  refine d_getr rfl e (fun v44 e => ?_)
  refine xo_iconstV (x := 0) rfl (by decide) ?_
  refine xo_iconstV (x := 1) rfl (by decide) ?_
  refine d_nn e (fun v45 g e1 => ?_)
  subst g
  replace e := e1
  clear e1
  refine d_iast rfl e (fun h e => ?_)
  refine xo_aload_nQ (w := (some v1)) rfl rfl ?_
  refine d_getr rfl e (fun v46 e => ?_)
  refine xo_iconstV (x := 1) rfl (by decide) ?_
  refine xo_bipushV (x := 9) rfl (by decide) ?_
  refine d_nn e (fun v47 g e1 => ?_)
  subst g
  replace e := e1
  clear e1
  refine d_iast rfl e (fun h e => ?_)
  exact d_ret rfl e
def m123 (F : Nat) (this : Nat) : xm Unit := b123_0 F (some this)
theorem t123 {sc : Nat × (Nat → Int32)} {F : Nat} {this : Nat} {h : xv_H} {r : Unit} {h' : xv_H} (e : m123 F this h = some (r, h')) : xr sc 123 [.ref this] h (fun v g => v = none ∧ g = h') := by
  have e0 : xv_ent (xt_mx 123) [.ref this] = [some (va_rf (some this))] := by simp [xv_ent, xv_sl, va_rf_cat, cat_int, cat_long, cat_ref, cat_null, va_rf_some, show xt_mx 123 = 1 from rfl]
  unfold xr
  rw [e0]
  exact t123_0 e
-- CellTreeModel.messages()I
def b125_0 (F : Nat) (l0 : Option Nat) : xm Int32 := mb (nn l0) fun v1 => mb (gi 915 v1) fun v2 => mr v2
theorem t125_0 {sc : Nat × (Nat → Int32)} {F : Nat} {r : Int32} {h' : xv_H} {l0 : Option Nat} {h : xv_H} (e : b125_0 F l0 h = some (r, h')) : xx sc 125 0 [some (va_rf l0)] [] h (fun v g => v = some (.int r) ∧ g = h') := by
  unfold b125_0 at e
  refine xo_aload_nQ (w := l0) rfl rfl ?_
  refine d_nn e (fun v1 g e1 => ?_)
  subst g
  replace e := e1
  clear e1
  refine d_geti rfl e (fun v2 e => ?_)
  exact d_iret rfl e
def m125 (F : Nat) (this : Nat) : xm Int32 := b125_0 F (some this)
theorem t125 {sc : Nat × (Nat → Int32)} {F : Nat} {this : Nat} {h : xv_H} {r : Int32} {h' : xv_H} (e : m125 F this h = some (r, h')) : xr sc 125 [.ref this] h (fun v g => v = some (.int r) ∧ g = h') := by
  have e0 : xv_ent (xt_mx 125) [.ref this] = [some (va_rf (some this))] := by simp [xv_ent, xv_sl, va_rf_cat, cat_int, cat_long, cat_ref, cat_null, va_rf_some, show xt_mx 125 = 1 from rfl]
  unfold xr
  rw [e0]
  exact t125_0 e
-- CellTreeModel.in(III)Z
def b127_15 (F : Nat) (s0 : Int32) : xm Int32 := mb (bz s0) fun _ => mr s0
theorem t127_15 {sc : Nat × (Nat → Int32)} {F : Nat} {r : Int32} {h' : xv_H} {s0 : Int32} {d0 d1 d2 : Option Value} {h : xv_H} (e : b127_15 F s0 h = some (r, h')) : xx sc 127 15 [d0, d1, d2] [.int s0] h (fun v g => v = some (.int r) ∧ g = h') := by
  unfold b127_15 at e
  exact d_zret rfl e
def b127_14 (F : Nat) : xm Int32 := b127_15 F (0 : Int32)
theorem t127_14 {sc : Nat × (Nat → Int32)} {F : Nat} {r : Int32} {h' : xv_H} {d0 d1 d2 : Option Value} {h : xv_H} (e : b127_14 F h = some (r, h')) : xx sc 127 14 [d0, d1, d2] [] h (fun v g => v = some (.int r) ∧ g = h') := by
  unfold b127_14 at e
  refine xo_iconstV (x := 0) rfl (by decide) ?_
  exact t127_15 e
def b127_10 (F : Nat) : xm Int32 := b127_15 F (1 : Int32)
theorem t127_10 {sc : Nat × (Nat → Int32)} {F : Nat} {r : Int32} {h' : xv_H} {d0 d1 d2 : Option Value} {h : xv_H} (e : b127_10 F h = some (r, h')) : xx sc 127 10 [d0, d1, d2] [] h (fun v g => v = some (.int r) ∧ g = h') := by
  unfold b127_10 at e
  refine xo_iconstV (x := 1) rfl (by decide) ?_
  refine xo_goto rfl rfl ?_
  exact t127_15 e
def b127_5 (F : Nat) (l0 : Int32) (l2 : Int32) : xm Int32 := if l2 < l0 then b127_14 F else b127_10 F
theorem t127_5 {sc : Nat × (Nat → Int32)} {F : Nat} {r : Int32} {h' : xv_H} {l0 : Int32} {l2 : Int32} {d1 : Option Value} {h : xv_H} (e : b127_5 F l0 l2 h = some (r, h')) : xx sc 127 5 [some (.int l0), d1, some (.int l2)] [] h (fun v g => v = some (.int r) ∧ g = h') := by
  unfold b127_5 at e
  refine xo_iload_n rfl rfl ?_
  refine xo_iload_n rfl rfl ?_
  refine d_icmp_gt rfl rfl e (fun _ e => ?_) (fun _ e => ?_)
  · exact t127_14 e
  · exact t127_10 e
def b127_0 (F : Nat) (l0 : Int32) (l1 : Int32) (l2 : Int32) : xm Int32 := if l0 < l1 then b127_14 F else b127_5 F l0 l2
theorem t127_0 {sc : Nat × (Nat → Int32)} {F : Nat} {r : Int32} {h' : xv_H} {l0 : Int32} {l1 : Int32} {l2 : Int32} {h : xv_H} (e : b127_0 F l0 l1 l2 h = some (r, h')) : xx sc 127 0 [some (.int l0), some (.int l1), some (.int l2)] [] h (fun v g => v = some (.int r) ∧ g = h') := by
  unfold b127_0 at e
  refine xo_iload_n rfl rfl ?_
  refine xo_iload_n rfl rfl ?_
  refine d_icmp_lt rfl rfl e (fun _ e => ?_) (fun _ e => ?_)
  · exact t127_14 e
  · exact t127_5 e
def m127 (F : Nat) (p0 : Int32) (p1 : Int32) (p2 : Int32) : xm Int32 := b127_0 F p0 p1 p2
theorem t127 {sc : Nat × (Nat → Int32)} {F : Nat} {p0 : Int32} {p1 : Int32} {p2 : Int32} {h : xv_H} {r : Int32} {h' : xv_H} (e : m127 F p0 p1 p2 h = some (r, h')) : xr sc 127 [.int p0, .int p1, .int p2] h (fun v g => v = some (.int r) ∧ g = h') := by
  have e0 : xv_ent (xt_mx 127) [.int p0, .int p1, .int p2] = [some (.int p0), some (.int p1), some (.int p2)] := by simp [xv_ent, xv_sl, va_rf_cat, cat_int, cat_long, cat_ref, cat_null, va_rf_some, show xt_mx 127 = 3 from rfl]
  unfold xr
  rw [e0]
  exact t127_0 e
-- CellTreeModel.message(I)I
def b126_45 (F : Nat) (s0 : Int32) : xm Int32 := mr s0
theorem t126_45 {sc : Nat × (Nat → Int32)} {F : Nat} {r : Int32} {h' : xv_H} {s0 : Int32} {d0 d1 : Option Value} {h : xv_H} (e : b126_45 F s0 h = some (r, h')) : xx sc 126 45 [d0, d1] [.int s0] h (fun v g => v = some (.int r) ∧ g = h') := by
  unfold b126_45 at e
  exact d_iret rfl e
def b126_44 (F : Nat) : xm Int32 := b126_45 F (-1 : Int32)
theorem t126_44 {sc : Nat × (Nat → Int32)} {F : Nat} {r : Int32} {h' : xv_H} {d0 d1 : Option Value} {h : xv_H} (e : b126_44 F h = some (r, h')) : xx sc 126 44 [d0, d1] [] h (fun v g => v = some (.int r) ∧ g = h') := by
  unfold b126_44 at e
  refine xo_iconstV (x := (-1)) rfl (by decide) ?_
  exact t126_45 e
def b126_14 (F : Nat) (l0 : Option Nat) (l1 : Int32) : xm Int32 := mb (nn l0) fun v1 => mb (gr 916 v1) fun v2 => mb (nn v2) fun v3 => mb (li v3 l1) fun v4 => mb (gr 917 v1) fun v5 => mb (nn v5) fun v6 => mb (li v6 l1) fun v7 => mb (gr 918 v1) fun v8 => mb (nn v8) fun v9 => mb (li v9 l1) fun v10 => b126_45 F ((((10000 : Int32) * v4) + ((10 : Int32) * v7)) + v10)
theorem t126_14 {sc : Nat × (Nat → Int32)} {F : Nat} {r : Int32} {h' : xv_H} {l0 : Option Nat} {l1 : Int32} {h : xv_H} (e : b126_14 F l0 l1 h = some (r, h')) : xx sc 126 14 [some (va_rf l0), some (.int l1)] [] h (fun v g => v = some (.int r) ∧ g = h') := by
  unfold b126_14 at e
  refine xo_sipushV (x := 10000) rfl (by decide) ?_
  refine xo_aload_nQ (w := l0) rfl rfl ?_
  refine d_nn e (fun v1 g e1 => ?_)
  subst g
  replace e := e1
  clear e1
  refine d_getr rfl e (fun v2 e => ?_)
  refine xo_iload_n rfl rfl ?_
  refine d_nn e (fun v3 g e1 => ?_)
  subst g
  replace e := e1
  clear e1
  refine d_iald rfl e (fun v4 e => ?_)
  refine xo_imul rfl ?_
  refine xo_bipushV (x := 10) rfl (by decide) ?_
  refine xo_aload_nQ (w := (some v1)) rfl rfl ?_
  refine d_getr rfl e (fun v5 e => ?_)
  refine xo_iload_n rfl rfl ?_
  refine d_nn e (fun v6 g e1 => ?_)
  subst g
  replace e := e1
  clear e1
  refine d_iald rfl e (fun v7 e => ?_)
  refine xo_imul rfl ?_
  refine xo_iadd rfl ?_
  refine xo_aload_nQ (w := (some v1)) rfl rfl ?_
  refine d_getr rfl e (fun v8 e => ?_)
  refine xo_iload_n rfl rfl ?_
  refine d_nn e (fun v9 g e1 => ?_)
  subst g
  replace e := e1
  clear e1
  refine d_iald rfl e (fun v10 e => ?_)
  refine xo_iadd rfl ?_
  refine xo_goto rfl rfl ?_
  exact t126_45 e
def b126_0 (F : Nat) (l0 : Option Nat) (l1 : Int32) : xm Int32 := mb (nn l0) fun v1 => mb (gi 915 v1) fun v2 => mb (m127 F l1 (0 : Int32) (v2 - (1 : Int32))) fun v3 => if v3 = 0 then b126_44 F else b126_14 F (some v1) l1
theorem t126_0 {sc : Nat × (Nat → Int32)} {F : Nat} {r : Int32} {h' : xv_H} {l0 : Option Nat} {l1 : Int32} {h : xv_H} (e : b126_0 F l0 l1 h = some (r, h')) : xx sc 126 0 [some (va_rf l0), some (.int l1)] [] h (fun v g => v = some (.int r) ∧ g = h') := by
  unfold b126_0 at e
  refine xo_iload_n rfl rfl ?_
  refine xo_iconstV (x := 0) rfl (by decide) ?_
  refine xo_aload_nQ (w := l0) rfl rfl ?_
  refine d_nn e (fun v1 g e1 => ?_)
  subst g
  replace e := e1
  clear e1
  refine d_geti rfl e (fun v2 e => ?_)
  refine xo_iconstV (x := 1) rfl (by decide) ?_
  refine xo_isub rfl ?_
  refine d_static_i (av := [.int l1, .int (0 : Int32), .int (v2 - (1 : Int32))]) (rest := []) rfl ⟨by decide, by decide, by decide⟩ rfl rfl (by simp [xv_fit, va_rf_cat, cat_int, cat_long, cat_ref, cat_null, show xt_mx 127 = 3 from rfl, show xt_lg 127 = [] from rfl]) (by simp [xv_room, va_rf_cat, cat_int, cat_long, cat_ref, cat_null]) (fun x0 h1 e1 => t127 e1) e (fun v3 h e => ?_)
  refine d_if_eq rfl rfl e (fun _ e => ?_) (fun _ e => ?_)
  · exact t126_44 e
  · exact t126_14 e
def m126 (F : Nat) (this : Nat) (p0 : Int32) : xm Int32 := b126_0 F (some this) p0
theorem t126 {sc : Nat × (Nat → Int32)} {F : Nat} {this : Nat} {p0 : Int32} {h : xv_H} {r : Int32} {h' : xv_H} (e : m126 F this p0 h = some (r, h')) : xr sc 126 [.ref this, .int p0] h (fun v g => v = some (.int r) ∧ g = h') := by
  have e0 : xv_ent (xt_mx 126) [.ref this, .int p0] = [some (va_rf (some this)), some (.int p0)] := by simp [xv_ent, xv_sl, va_rf_cat, cat_int, cat_long, cat_ref, cat_null, va_rf_some, show xt_mx 126 = 2 from rfl]
  unfold xr
  rw [e0]
  exact t126_0 e
