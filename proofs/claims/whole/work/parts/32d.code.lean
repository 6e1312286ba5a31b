-- java/util/ArrayList.grow()[Ljava/lang/Object;
def b57_0 (F : Nat) (l0 : Option Nat) : xm (Option Nat) := mb (nn l0) fun v1 => mb (gi 1001 v1) fun v2 => mb (vc 10 v1) fun _ => mb (m58 F v1 (v2 + (1 : Int32))) fun v3 => mr v3
theorem t57_0 {sc : Nat × (Nat → Int32)} {F : Nat} {r : Option Nat} {h' : xv_H} {l0 : Option Nat} {h : xv_H} (e : b57_0 F l0 h = some (r, h')) : xx sc 57 0 [some (va_rf l0)] [] h (fun v g => v = some (va_rf r) ∧ g = h') := by
  unfold b57_0 at e
  refine xo_aload_nQ (w := l0) rfl rfl ?_
  refine xo_aload_nQ (w := l0) rfl rfl ?_
  refine d_nn e (fun v1 g e1 => ?_)
  subst g
  replace e := e1
  clear e1
  refine d_geti rfl e (fun v2 e => ?_)
  refine xo_iconstV (x := 1) rfl (by decide) ?_
  refine xo_iadd rfl ?_
  refine d_virtual_a (av := [.int (v2 + (1 : Int32))]) (rest := []) rfl ⟨by decide, by decide⟩ rfl rfl (by simp [xv_fit, va_rf_cat, cat_int, cat_long, cat_ref, cat_null, show xt_mx 58 = 4 from rfl, show xt_lg 58 = [] from rfl]) (by simp [xv_room, va_rf_cat, cat_int, cat_long, cat_ref, cat_null]) (fun x0 h1 e1 => t58 e1) e (fun v3 h e => ?_)
  exact d_aret rfl e
def m57 (F : Nat) (this : Nat) : xm (Option Nat) := b57_0 F (some this)
theorem t57 {sc : Nat × (Nat → Int32)} {F : Nat} {this : Nat} {h : xv_H} {r : Option Nat} {h' : xv_H} (e : m57 F this h = some (r, h')) : xr sc 57 [.ref this] h (fun v g => v = some (va_rf r) ∧ g = h') := by
  have e0 : xv_ent (xt_mx 57) [.ref this] = [some (va_rf (some this))] := by simp [xv_ent, xv_sl, va_rf_cat, cat_int, cat_long, cat_ref, cat_null, va_rf_some, show xt_mx 57 = 1 from rfl]
  unfold xr
  rw [e0]
  exact t57_0 e
-- java/util/ArrayList.add(Ljava/lang/Object;[Ljava/lang/Object;I)V
def b56_11 (F : Nat) (l0 : Option Nat) (l1 : Option Nat) (l2 : Option Nat) (l3 : Int32) : xm Unit := mb (nn l2) fun v1 => mb (sr 109 v1 l3 l1) fun _ => mb (nn l0) fun v2 => mb (pi_ 1001 v2 (l3 + (1 : Int32))) fun _ => mr ()
theorem t56_11 {sc : Nat × (Nat → Int32)} {F : Nat} {r : Unit} {h' : xv_H} {l0 : Option Nat} {l1 : Option Nat} {l2 : Option Nat} {l3 : Int32} {h : xv_H} (e : b56_11 F l0 l1 l2 l3 h = some (r, h')) : xx sc 56 11 [some (va_rf l0), some (va_rf l1), some (va_rf l2), some (.int l3)] [] h (fun v g => v = none ∧ g = h') := by
  unfold b56_11 at e
  refine xo_aload_nQ (w := l2) rfl rfl ?_
  refine xo_iload_n rfl rfl ?_
  refine xo_aload_nQ (w := l1) rfl rfl ?_
  refine d_nn e (fun v1 g e1 => ?_)
  subst g
  replace e := e1
  clear e1
  refine d_aast (w := l1) rfl e (fun h e => ?_)
  refine xo_aload_nQ (w := l0) rfl rfl ?_
  refine xo_iload_n rfl rfl ?_
  refine xo_iconstV (x := 1) rfl (by decide) ?_
  refine xo_iadd rfl ?_
  refine d_nn e (fun v2 g e1 => ?_)
  subst g
  replace e := e1
  clear e1
  refine d_puti rfl e (fun h e => ?_)
  exact d_ret rfl e
def b56_6 (F : Nat) (l0 : Option Nat) (l1 : Option Nat) (l3 : Int32) : xm Unit := mb (nn l0) fun v1 => mb (vc 10 v1) fun _ => mb (m57 F v1) fun v2 => b56_11 F (some v1) l1 v2 l3
theorem t56_6 {sc : Nat × (Nat → Int32)} {F : Nat} {r : Unit} {h' : xv_H} {l0 : Option Nat} {l1 : Option Nat} {l3 : Int32} {d2 : Option Value} {h : xv_H} (e : b56_6 F l0 l1 l3 h = some (r, h')) : xx sc 56 6 [some (va_rf l0), some (va_rf l1), d2, some (.int l3)] [] h (fun v g => v = none ∧ g = h') := by
  unfold b56_6 at e
  refine xo_aload_nQ (w := l0) rfl rfl ?_
  refine d_nn e (fun v1 g e1 => ?_)
  subst g
  replace e := e1
  clear e1
  refine d_virtual_a (av := []) (rest := []) rfl ⟨by decide, by decide⟩ rfl rfl (by simp [xv_fit, va_rf_cat, cat_int, cat_long, cat_ref, cat_null, show xt_mx 57 = 1 from rfl, show xt_lg 57 = [] from rfl]) (by simp [xv_room, va_rf_cat, cat_int, cat_long, cat_ref, cat_null]) (fun x0 h1 e1 => t57 e1) e (fun v2 h e => ?_)
  refine xo_astore_nQ (w := v2) rfl (Nat.le_of_ble_eq_true rfl) rfl ?_
  exact t56_11 e
def b56_0 (F : Nat) (l0 : Option Nat) (l1 : Option Nat) (l2 : Option Nat) (l3 : Int32) : xm Unit := mb (nn l2) fun v1 => mb (len 109 1 v1) fun v2 => if ¬ l3 = v2 then b56_11 F l0 l1 (some v1) l3 else b56_6 F l0 l1 l3
theorem t56_0 {sc : Nat × (Nat → Int32)} {F : Nat} {r : Unit} {h' : xv_H} {l0 : Option Nat} {l1 : Option Nat} {l2 : Option Nat} {l3 : Int32} {h : xv_H} (e : b56_0 F l0 l1 l2 l3 h = some (r, h')) : xx sc 56 0 [some (va_rf l0), some (va_rf l1), some (va_rf l2), some (.int l3)] [] h (fun v g => v = none ∧ g = h') := by
  unfold b56_0 at e
  refine xo_iload_n rfl rfl ?_
  refine xo_aload_nQ (w := l2) rfl rfl ?_
  refine d_nn e (fun v1 g e1 => ?_)
  subst g
  replace e := e1
  clear e1
  refine d_len rfl e (fun v2 e => ?_)
  refine d_icmp_ne rfl rfl e (fun _ e => ?_) (fun _ e => ?_)
  · exact t56_11 e
  · exact t56_6 e
def m56 (F : Nat) (this : Nat) (p0 : Option Nat) (p1 : Option Nat) (p2 : Int32) : xm Unit := b56_0 F (some this) p0 p1 p2
theorem t56 {sc : Nat × (Nat → Int32)} {F : Nat} {this : Nat} {p0 : Option Nat} {p1 : Option Nat} {p2 : Int32} {h : xv_H} {r : Unit} {h' : xv_H} (e : m56 F this p0 p1 p2 h = some (r, h')) : xr sc 56 [.ref this, va_rf p0, va_rf p1, .int p2] h (fun v g => v = none ∧ g = h') := by
  have e0 : xv_ent (xt_mx 56) [.ref this, va_rf p0, va_rf p1, .int p2] = [some (va_rf (some this)), some (va_rf p0), some (va_rf p1), some (.int p2)] := by simp [xv_ent, xv_sl, va_rf_cat, cat_int, cat_long, cat_ref, cat_null, va_rf_some, show xt_mx 56 = 4 from rfl]
  unfold xr
  rw [e0]
  exact t56_0 e
-- java/util/ArrayList.add(Ljava/lang/Object;)Z
def b55_0 (F : Nat) (l0 : Option Nat) (l1 : Option Nat) : xm Int32 := mb (nn l0) fun v1 => mb (gi 1002 v1) fun v2 => mb (pi_ 1002 v1 (v2 + (1 : Int32))) fun _ => mb (gr 1000 v1) fun v3 => mb (gi 1001 v1) fun v4 => mb (vc 10 v1) fun _ => mb (m56 F v1 l1 v3 v4) fun _ => mb (bz (1 : Int32)) fun _ => mr (1 : Int32)
theorem t55_0 {sc : Nat × (Nat → Int32)} {F : Nat} {r : Int32} {h' : xv_H} {l0 : Option Nat} {l1 : Option Nat} {h : xv_H} (e : b55_0 F l0 l1 h = some (r, h')) : xx sc 55 0 [some (va_rf l0), some (va_rf l1)] [] h (fun v g => v = some (.int r) ∧ g = h') := by
  unfold b55_0 at e
  refine xo_aload_nQ (w := l0) rfl rfl ?_
  refine xo_dup rfl (by first | rfl | exact va_rf_cat _) ?_
  refine d_nn e (fun v1 g e1 => ?_)
  subst g
  replace e := e1
  clear e1
  refine d_geti rfl e (fun v2 e => ?_)
  refine xo_iconstV (x := 1) rfl (by decide) ?_
  refine xo_iadd rfl ?_
  refine d_puti rfl e (fun h e => ?_)
  refine xo_aload_nQ (w := (some v1)) rfl rfl ?_
  refine xo_aload_nQ (w := l1) rfl rfl ?_
  refine xo_aload_nQ (w := (some v1)) rfl rfl ?_
  refine d_getr rfl e (fun v3 e => ?_)
  refine xo_aload_nQ (w := (some v1)) rfl rfl ?_
  refine d_geti rfl e (fun v4 e => ?_)
  refine d_virtual_v (av := [va_rf l1, va_rf v3, .int v4]) (rest := []) rfl ⟨by decide, by decide⟩ rfl rfl (by simp [xv_fit, va_rf_cat, cat_int, cat_long, cat_ref, cat_null, show xt_mx 56 = 4 from rfl, show xt_lg 56 = [] from rfl]) (by simp [xv_room, va_rf_cat, cat_int, cat_long, cat_ref, cat_null]) (fun x0 h1 e1 => t56 e1) e (fun _ h e => ?_)
  refine xo_iconstV (x := 1) rfl (by decide) ?_
  exact d_zret rfl e
def m55 (F : Nat) (this : Nat) (p0 : Option Nat) : xm Int32 := b55_0 F (some this) p0
theorem t55 {sc : Nat × (Nat → Int32)} {F : Nat} {this : Nat} {p0 : Option Nat} {h : xv_H} {r : Int32} {h' : xv_H} (e : m55 F this p0 h = some (r, h')) : xr sc 55 [.ref this, va_rf p0] h (fun v g => v = some (.int r) ∧ g = h') := by
  have e0 : xv_ent (xt_mx 55) [.ref this, va_rf p0] = [some (va_rf (some this)), some (va_rf p0)] := by simp [xv_ent, xv_sl, va_rf_cat, cat_int, cat_long, cat_ref, cat_null, va_rf_some, show xt_mx 55 = 2 from rfl]
  unfold xr
  rw [e0]
  exact t55_0 e
-- CellTree.send(ILCellTree$Transaction;ILCellTree$Cell;)V
def b52_32 (F : Nat) : xm Unit := mr ()
theorem t52_32 {sc : Nat × (Nat → Int32)} {F : Nat} {r : Unit} {h' : xv_H} {d0 d1 d2 d3 d4 : Option Value} {h : xv_H} (e : b52_32 F h = some (r, h')) : xx sc 52 32 [d0, d1, d2, d3, d4] [] h (fun v g => v = none ∧ g = h') := by
  unfold b52_32 at e
  exact d_ret rfl e
def b52_12 (F : Nat) (l0 : Option Nat) (l1 : Int32) (l2 : Option Nat) (l3 : Int32) (l4 : Option Nat) : xm Unit := mb (nn l0) fun v1 => mb (gr 2 v1) fun v2 => mb (nw 8 4) fun v3 => mb (m54 F v3 l1 l2 l3 l4) fun _ => mb (nn v2) fun v4 => mb (vc 10 v4) fun _ => mb (m55 F v4 (some v3)) fun v5 => b52_32 F
theorem t52_12 {sc : Nat × (Nat → Int32)} {F : Nat} {r : Unit} {h' : xv_H} {l0 : Option Nat} {l1 : Int32} {l2 : Option Nat} {l3 : Int32} {l4 : Option Nat} {h : xv_H} (e : b52_12 F l0 l1 l2 l3 l4 h = some (r, h')) : xx sc 52 12 [some (va_rf l0), some (.int l1), some (va_rf l2), some (.int l3), some (va_rf l4)] [] h (fun v g => v = none ∧ g = h') := by
  unfold b52_12 at e
  refine xo_aload_nQ (w := l0) rfl rfl ?_
  refine d_nn e (fun v1 g e1 => ?_)
  subst g
  replace e := e1
  clear e1
  refine d_getr rfl e (fun v2 e => ?_)
  refine d_new rfl e (fun v3 h e => ?_)
  refine xo_dup rfl (by first | rfl | exact va_rf_cat _) ?_
  refine xo_iload_n rfl rfl ?_
  refine xo_aload_nQ (w := l2) rfl rfl ?_
  refine xo_iload_n rfl rfl ?_
  refine xo_aloadQ (w := l4) rfl rfl ?_
  refine d_special_v (av := [.int l1, va_rf l2, .int l3, va_rf l4]) (rest := [va_rf (some v3), va_rf v2]) rfl (by decide) rfl rfl (by simp [xv_fit, va_rf_cat, cat_int, cat_long, cat_ref, cat_null, show xt_mx 54 = 5 from rfl, show xt_lg 54 = [] from rfl]) (by simp [xv_room, va_rf_cat, cat_int, cat_long, cat_ref, cat_null]) (fun x0 h1 e1 => t54 e1) e (fun _ h e => ?_)
  refine d_nn e (fun v4 g e1 => ?_)
  subst g
  replace e := e1
  clear e1
  refine d_virtual_i (av := [va_rf (some v3)]) (rest := []) rfl ⟨by decide, by decide⟩ rfl rfl (by simp [xv_fit, va_rf_cat, cat_int, cat_long, cat_ref, cat_null, show xt_mx 55 = 2 from rfl, show xt_lg 55 = [] from rfl]) (by simp [xv_room, va_rf_cat, cat_int, cat_long, cat_ref, cat_null]) (fun x0 h1 e1 => t55 e1) e (fun v5 h e => ?_)
  refine xo_pop rfl (by first | rfl | exact va_rf_cat _) ?_
  exact t52_32 e
def b52_0 (F : Nat) (l0 : Option Nat) (l1 : Int32) (l2 : Option Nat) (l3 : Int32) (l4 : Option Nat) : xm Unit := mb (nn l0) fun v1 => mb (gr 2 v1) fun v2 => mb (nn v2) fun v3 => mb (vc 10 v3) fun _ => mb (m53 F v3) fun v4 => if (40 : Int32) ≤ v4 then b52_32 F else b52_12 F (some v1) l1 l2 l3 l4
theorem t52_0 {sc : Nat × (Nat → Int32)} {F : Nat} {r : Unit} {h' : xv_H} {l0 : Option Nat} {l1 : Int32} {l2 : Option Nat} {l3 : Int32} {l4 : Option Nat} {h : xv_H} (e : b52_0 F l0 l1 l2 l3 l4 h = some (r, h')) : xx sc 52 0 [some (va_rf l0), some (.int l1), some (va_rf l2), some (.int l3), some (va_rf l4)] [] h (fun v g => v = none ∧ g = h') := by
  unfold b52_0 at e
  refine xo_aload_nQ (w := l0) rfl rfl ?_
  refine d_nn e (fun v1 g e1 => ?_)
  subst g
  replace e := e1
  clear e1
  refine d_getr rfl e (fun v2 e => ?_)
  refine d_nn e (fun v3 g e1 => ?_)
  subst g
  replace e := e1
  clear e1
  refine d_virtual_i (av := []) (rest := []) rfl ⟨by decide, by decide⟩ rfl rfl (by simp [xv_fit, va_rf_cat, cat_int, cat_long, cat_ref, cat_null, show xt_mx 53 = 1 from rfl, show xt_lg 53 = [] from rfl]) (by simp [xv_room, va_rf_cat, cat_int, cat_long, cat_ref, cat_null]) (fun x0 h1 e1 => t53 e1) e (fun v4 h e => ?_)
  refine xo_bipushV (x := 40) rfl (by decide) ?_
  refine d_icmp_ge rfl rfl e (fun _ e => ?_) (fun _ e => ?_)
  · exact t52_32 e
  · exact t52_12 e
def m52 (F : Nat) (this : Nat) (p0 : Int32) (p1 : Option Nat) (p2 : Int32) (p3 : Option Nat) : xm Unit := b52_0 F (some this) p0 p1 p2 p3
theorem t52 {sc : Nat × (Nat → Int32)} {F : Nat} {this : Nat} {p0 : Int32} {p1 : Option Nat} {p2 : Int32} {p3 : Option Nat} {h : xv_H} {r : Unit} {h' : xv_H} (e : m52 F this p0 p1 p2 p3 h = some (r, h')) : xr sc 52 [.ref this, .int p0, va_rf p1, .int p2, va_rf p3] h (fun v g => v = none ∧ g = h') := by
  have e0 : xv_ent (xt_mx 52) [.ref this, .int p0, va_rf p1, .int p2, va_rf p3] = [some (va_rf (some this)), some (.int p0), some (va_rf p1), some (.int p2), some (va_rf p3)] := by simp [xv_ent, xv_sl, va_rf_cat, cat_int, cat_long, cat_ref, cat_null, va_rf_some, show xt_mx 52 = 5 from rfl]
  unfold xr
  rw [e0]
  exact t52_0 e
-- CellTree.sendPrepare(LCellTree$Transaction;)I
def b51_44 (F : Nat) (l2 : Int32) : xm Int32 := mr l2
theorem t51_44 {sc : Nat × (Nat → Int32)} {F : Nat} {r : Int32} {h' : xv_H} {l2 : Int32} {d0 d1 d3 : Option Value} {h : xv_H} (e : b51_44 F l2 h = some (r, h')) : xx sc 51 44 [d0, d1, some (.int l2), d3] [] h (fun v g => v = some (.int r) ∧ g = h') := by
  unfold b51_44 at e
  refine xo_iload_n rfl rfl ?_
  exact d_iret rfl e
def b51_38 (k4 : Option Nat → Option Nat → Int32 → Int32 → xm Int32) (F : Nat) (l0 : Option Nat) (l1 : Option Nat) (l2 : Int32) (l3 : Int32) : xm Int32 := k4 l0 l1 l2 (l3 + (1 : Int32))
theorem t51_38 {sc : Nat × (Nat → Int32)} {F : Nat} {r : Int32} {h' : xv_H} {k4 : Option Nat → Option Nat → Int32 → Int32 → xm Int32} (hk4 : ∀ (l0 : Option Nat) (l1 : Option Nat) (l2 : Int32) (l3 : Int32) (h : xv_H), k4 l0 l1 l2 l3 h = some (r, h') → xx sc 51 4 [some (va_rf l0), some (va_rf l1), some (.int l2), some (.int l3)] [] h (fun v g => v = some (.int r) ∧ g = h')) {l0 : Option Nat} {l1 : Option Nat} {l2 : Int32} {l3 : Int32} {h : xv_H} (e : b51_38 k4 F l0 l1 l2 l3 h = some (r, h')) : xx sc 51 38 [some (va_rf l0), some (va_rf l1), some (.int l2), some (.int l3)] [] h (fun v g => v = some (.int r) ∧ g = h') := by
  unfold b51_38 at e
  refine xo_iincV (z := 1) rfl (by decide) rfl (Nat.le_of_ble_eq_true rfl) rfl ?_
  refine xo_goto rfl rfl ?_
  exact hk4 _ _ _ _ _ e
def b51_27 (k4 : Option Nat → Option Nat → Int32 → Int32 → xm Int32) (F : Nat) (l0 : Option Nat) (l1 : Option Nat) (l2 : Int32) (l3 : Int32) : xm Int32 := mb (nn l0) fun v1 => mb (vc 0 v1) fun _ => mb (m52 F v1 (1 : Int32) l1 l3 none) fun _ => b51_38 k4 F (some v1) l1 (l2 + (1 : Int32)) l3
theorem t51_27 {sc : Nat × (Nat → Int32)} {F : Nat} {r : Int32} {h' : xv_H} {k4 : Option Nat → Option Nat → Int32 → Int32 → xm Int32} (hk4 : ∀ (l0 : Option Nat) (l1 : Option Nat) (l2 : Int32) (l3 : Int32) (h : xv_H), k4 l0 l1 l2 l3 h = some (r, h') → xx sc 51 4 [some (va_rf l0), some (va_rf l1), some (.int l2), some (.int l3)] [] h (fun v g => v = some (.int r) ∧ g = h')) {l0 : Option Nat} {l1 : Option Nat} {l2 : Int32} {l3 : Int32} {h : xv_H} (e : b51_27 k4 F l0 l1 l2 l3 h = some (r, h')) : xx sc 51 27 [some (va_rf l0), some (va_rf l1), some (.int l2), some (.int l3)] [] h (fun v g => v = some (.int r) ∧ g = h') := by
  unfold b51_27 at e
  refine xo_aload_nQ (w := l0) rfl rfl ?_
  refine xo_iconstV (x := 1) rfl (by decide) ?_
  refine xo_aload_nQ (w := l1) rfl rfl ?_
  refine xo_iload_n rfl rfl ?_
  refine xo_nullV rfl ?_
  refine d_nn e (fun v1 g e1 => ?_)
  subst g
  replace e := e1
  clear e1
  refine d_virtual_v (av := [.int (1 : Int32), va_rf l1, .int l3, va_rf none]) (rest := []) rfl ⟨by decide, by decide⟩ rfl rfl (by simp [xv_fit, va_rf_cat, cat_int, cat_long, cat_ref, cat_null, show xt_mx 52 = 5 from rfl, show xt_lg 52 = [] from rfl]) (by simp [xv_room, va_rf_cat, cat_int, cat_long, cat_ref, cat_null]) (fun x0 h1 e1 => t52 e1) e (fun _ h e => ?_)
  refine xo_iincV (z := 1) rfl (by decide) rfl (Nat.le_of_ble_eq_true rfl) rfl ?_
  exact t51_38 hk4 e
def b51_18 (k4 : Option Nat → Option Nat → Int32 → Int32 → xm Int32) (F : Nat) (l0 : Option Nat) (l1 : Option Nat) (l2 : Int32) (l3 : Int32) : xm Int32 := mb (nn l1) fun v1 => mb (gr 403 v1) fun v2 => mb (nn v2) fun v3 => mb (lb v3 l3) fun v4 => if ¬ v4 = 0 then b51_38 k4 F l0 (some v1) l2 l3 else b51_27 k4 F l0 (some v1) l2 l3
theorem t51_18 {sc : Nat × (Nat → Int32)} {F : Nat} {r : Int32} {h' : xv_H} {k4 : Option Nat → Option Nat → Int32 → Int32 → xm Int32} (hk4 : ∀ (l0 : Option Nat) (l1 : Option Nat) (l2 : Int32) (l3 : Int32) (h : xv_H), k4 l0 l1 l2 l3 h = some (r, h') → xx sc 51 4 [some (va_rf l0), some (va_rf l1), some (.int l2), some (.int l3)] [] h (fun v g => v = some (.int r) ∧ g = h')) {l0 : Option Nat} {l1 : Option Nat} {l2 : Int32} {l3 : Int32} {h : xv_H} (e : b51_18 k4 F l0 l1 l2 l3 h = some (r, h')) : xx sc 51 18 [some (va_rf l0), some (va_rf l1), some (.int l2), some (.int l3)] [] h (fun v g => v = some (.int r) ∧ g = h') := by
  unfold b51_18 at e
  refine xo_aload_nQ (w := l1) rfl rfl ?_
  refine d_nn e (fun v1 g e1 => ?_)
  subst g
  replace e := e1
  clear e1
  refine d_getr rfl e (fun v2 e => ?_)
  refine xo_iload_n rfl rfl ?_
  refine d_nn e (fun v3 g e1 => ?_)
  subst g
  replace e := e1
  clear e1
  refine d_bald rfl e (fun v4 e => ?_)
  refine d_if_ne rfl rfl e (fun _ e => ?_) (fun _ e => ?_)
  · exact t51_38 hk4 e
  · exact t51_27 hk4 e
def b51_9 (k4 : Option Nat → Option Nat → Int32 → Int32 → xm Int32) (F : Nat) (l0 : Option Nat) (l1 : Option Nat) (l2 : Int32) (l3 : Int32) : xm Int32 := mb (nn l1) fun v1 => mb (gr 402 v1) fun v2 => mb (nn v2) fun v3 => mb (lb v3 l3) fun v4 => if v4 = 0 then b51_38 k4 F l0 (some v1) l2 l3 else b51_18 k4 F l0 (some v1) l2 l3
theorem t51_9 {sc : Nat × (Nat → Int32)} {F : Nat} {r : Int32} {h' : xv_H} {k4 : Option Nat → Option Nat → Int32 → Int32 → xm Int32} (hk4 : ∀ (l0 : Option Nat) (l1 : Option Nat) (l2 : Int32) (l3 : Int32) (h : xv_H), k4 l0 l1 l2 l3 h = some (r, h') → xx sc 51 4 [some (va_rf l0), some (va_rf l1), some (.int l2), some (.int l3)] [] h (fun v g => v = some (.int r) ∧ g = h')) {l0 : Option Nat} {l1 : Option Nat} {l2 : Int32} {l3 : Int32} {h : xv_H} (e : b51_9 k4 F l0 l1 l2 l3 h = some (r, h')) : xx sc 51 9 [some (va_rf l0), some (va_rf l1), some (.int l2), some (.int l3)] [] h (fun v g => v = some (.int r) ∧ g = h') := by
  unfold b51_9 at e
  refine xo_aload_nQ (w := l1) rfl rfl ?_
  refine d_nn e (fun v1 g e1 => ?_)
  subst g
  replace e := e1
  clear e1
  refine d_getr rfl e (fun v2 e => ?_)
  refine xo_iload_n rfl rfl ?_
  refine d_nn e (fun v3 g e1 => ?_)
  subst g
  replace e := e1
  clear e1
  refine d_bald rfl e (fun v4 e => ?_)
  refine d_if_eq rfl rfl e (fun _ e => ?_) (fun _ e => ?_)
  · exact t51_38 hk4 e
  · exact t51_18 hk4 e
def b51_4 (F : Nat) : Nat → Option Nat → Option Nat → Int32 → Int32 → xm Int32
  | 0, _, _, _, _ => fun _ => none
  | f + 1, l0, l1, l2, l3 => if (3 : Int32) ≤ l3 then b51_44 F l2 else b51_9 (b51_4 F f) F l0 l1 l2 l3
theorem t51_4 {sc : Nat × (Nat → Int32)} {F : Nat} {r : Int32} {h' : xv_H} : ∀ (f : Nat) (l0 : Option Nat) (l1 : Option Nat) (l2 : Int32) (l3 : Int32) (h : xv_H), b51_4 F f l0 l1 l2 l3 h = some (r, h') → xx sc 51 4 [some (va_rf l0), some (va_rf l1), some (.int l2), some (.int l3)] [] h (fun v g => v = some (.int r) ∧ g = h') := by
  intro f
  induction f with
  | zero => intro l0 l1 l2 l3 h e; cases e
  | succ f ih =>
    intro l0 l1 l2 l3 h e
    unfold b51_4 at e
    refine xo_iload_n rfl rfl ?_
    refine xo_iconstV (x := 3) rfl (by decide) ?_
    refine d_icmp_ge rfl rfl e (fun _ e => ?_) (fun _ e => ?_)
    · exact t51_44 e
    · exact t51_9 (fun a0 a1 a2 a3 h e => ih a0 a1 a2 a3 h e) e
def b51_0 (F : Nat) (l0 : Option Nat) (l1 : Option Nat) : xm Int32 := b51_4 F F l0 l1 (0 : Int32) (0 : Int32)
theorem t51_0 {sc : Nat × (Nat → Int32)} {F : Nat} {r : Int32} {h' : xv_H} {l0 : Option Nat} {l1 : Option Nat} {d2 d3 : Option Value} {h : xv_H} (e : b51_0 F l0 l1 h = some (r, h')) : xx sc 51 0 [some (va_rf l0), some (va_rf l1), d2, d3] [] h (fun v g => v = some (.int r) ∧ g = h') := by
  unfold b51_0 at e
  refine xo_iconstV (x := 0) rfl (by decide) ?_
  refine xo_istore_n rfl (Nat.le_of_ble_eq_true rfl) rfl ?_
  refine xo_iconstV (x := 0) rfl (by decide) ?_
  refine xo_istore_n rfl (Nat.le_of_ble_eq_true rfl) rfl ?_
  exact t51_4 F _ _ _ _ _ e
def m51 (F : Nat) (this : Nat) (p0 : Option Nat) : xm Int32 := b51_0 F (some this) p0
theorem t51 {sc : Nat × (Nat → Int32)} {F : Nat} {this : Nat} {p0 : Option Nat} {h : xv_H} {r : Int32} {h' : xv_H} (e : m51 F this p0 h = some (r, h')) : xr sc 51 [.ref this, va_rf p0] h (fun v g => v = some (.int r) ∧ g = h') := by
  have e0 : xv_ent (xt_mx 51) [.ref this, va_rf p0] = [some (va_rf (some this)), some (va_rf p0), none, none] := by simp [xv_ent, xv_sl, va_rf_cat, cat_int, cat_long, cat_ref, cat_null, va_rf_some, show xt_mx 51 = 4 from rfl]
  unfold xr
  rw [e0]
  exact t51_0 e
-- CellTree.beginDraft(LCellTree$Client;)V
def b50_34 (F : Nat) (l0 : Option Nat) (l1 : Option Nat) (l2 : Option Nat) : xm Unit := mb (nn l0) fun v1 => mb (gi 4 v1) fun v2 => mb (pi_ 4 v1 (v2 + (1 : Int32))) fun _ => mb (gr 3 v1) fun v3 => mb (gi 4 v1) fun v4 => mb (nn v3) fun v5 => mb (sr 106 v5 v4 l2) fun _ => mb (gi 4 v1) fun v6 => mb (nn l2) fun v7 => mb (pi_ 405 v7 v6) fun _ => mb (nn l1) fun v8 => mb (pr 111 v8 (some v7)) fun _ => mb (vc 0 v1) fun _ => mb (m51 F v1 (some v7)) fun v9 => mr ()
theorem t50_34 {sc : Nat × (Nat → Int32)} {F : Nat} {r : Unit} {h' : xv_H} {l0 : Option Nat} {l1 : Option Nat} {l2 : Option Nat} {h : xv_H} (e : b50_34 F l0 l1 l2 h = some (r, h')) : xx sc 50 34 [some (va_rf l0), some (va_rf l1), some (va_rf l2)] [] h (fun v g => v = none ∧ g = h') := by
  unfold b50_34 at e
  refine xo_aload_nQ (w := l0) rfl rfl ?_
  refine xo_dup rfl (by first | rfl | exact va_rf_cat _) ?_
  refine d_nn e (fun v1 g e1 => ?_)
  subst g
  replace e := e1
  clear e1
  refine d_geti rfl e (fun v2 e => ?_)
  refine xo_iconstV (x := 1) rfl (by decide) ?_
  refine xo_iadd rfl ?_
  refine d_puti rfl e (fun h e => ?_)
  refine xo_aload_nQ (w := (some v1)) rfl rfl ?_
  refine d_getr rfl e (fun v3 e => ?_)
  refine xo_aload_nQ (w := (some v1)) rfl rfl ?_
  refine d_geti rfl e (fun v4 e => ?_)
  refine xo_aload_nQ (w := l2) rfl rfl ?_
  refine d_nn e (fun v5 g e1 => ?_)
  subst g
  replace e := e1
  clear e1
  refine d_aast (w := l2) rfl e (fun h e => ?_)
  refine xo_aload_nQ (w := l2) rfl rfl ?_
  refine xo_aload_nQ (w := (some v1)) rfl rfl ?_
  refine d_geti rfl e (fun v6 e => ?_)
  refine d_nn e (fun v7 g e1 => ?_)
  subst g
  replace e := e1
  clear e1
  refine d_puti rfl e (fun h e => ?_)
  refine xo_aload_nQ (w := l1) rfl rfl ?_
  refine xo_aload_nQ (w := (some v7)) rfl rfl ?_
  refine d_nn e (fun v8 g e1 => ?_)
  subst g
  replace e := e1
  clear e1
  refine d_putr (w := (some v7)) rfl e (fun h e => ?_)
  refine xo_aload_nQ (w := (some v1)) rfl rfl ?_
  refine xo_aload_nQ (w := (some v7)) rfl rfl ?_
  refine d_virtual_i (av := [va_rf (some v7)]) (rest := []) rfl ⟨by decide, by decide⟩ rfl rfl (by simp [xv_fit, va_rf_cat, cat_int, cat_long, cat_ref, cat_null, show xt_mx 51 = 4 from rfl, show xt_lg 51 = [] from rfl]) (by simp [xv_room, va_rf_cat, cat_int, cat_long, cat_ref, cat_null]) (fun x0 h1 e1 => t51 e1) e (fun v9 h e => ?_)
  refine xo_pop rfl (by first | rfl | exact va_rf_cat _) ?_
  exact d_ret rfl e
def b50_25 (F : Nat) (l1 : Option Nat) : xm Unit := mb (nn l1) fun v1 => mb (gr 102 v1) fun v2 => mb (nn v2) fun v3 => mb (pi_ 207 v3 (4 : Int32)) fun _ => mr ()
theorem t50_25 {sc : Nat × (Nat → Int32)} {F : Nat} {r : Unit} {h' : xv_H} {l1 : Option Nat} {d0 d2 : Option Value} {h : xv_H} (e : b50_25 F l1 h = some (r, h')) : xx sc 50 25 [d0, some (va_rf l1), d2] [] h (fun v g => v = none ∧ g = h') := by
  unfold b50_25 at e
  refine xo_aload_nQ (w := l1) rfl rfl ?_
  refine d_nn e (fun v1 g e1 => ?_)
  subst g
  replace e := e1
  clear e1
  refine d_getr rfl e (fun v2 e => ?_)
  refine xo_iconstV (x := 4) rfl (by decide) ?_
  refine d_nn e (fun v3 g e1 => ?_)
  subst g
  replace e := e1
  clear e1
  refine d_puti rfl e (fun h e => ?_)
  exact d_ret rfl e
def b50_15 (F : Nat) (l0 : Option Nat) (l1 : Option Nat) (l2 : Option Nat) : xm Unit := mb (nn l0) fun v1 => mb (gi 4 v1) fun v2 => if v2 < (512 : Int32) then b50_34 F (some v1) l1 l2 else b50_25 F l1
theorem t50_15 {sc : Nat × (Nat → Int32)} {F : Nat} {r : Unit} {h' : xv_H} {l0 : Option Nat} {l1 : Option Nat} {l2 : Option Nat} {h : xv_H} (e : b50_15 F l0 l1 l2 h = some (r, h')) : xx sc 50 15 [some (va_rf l0), some (va_rf l1), some (va_rf l2)] [] h (fun v g => v = none ∧ g = h') := by
  unfold b50_15 at e
  refine xo_aload_nQ (w := l0) rfl rfl ?_
  refine d_nn e (fun v1 g e1 => ?_)
  subst g
  replace e := e1
  clear e1
  refine d_geti rfl e (fun v2 e => ?_)
  refine xo_sipushV (x := 512) rfl (by decide) ?_
  refine d_icmp_lt rfl rfl e (fun _ e => ?_) (fun _ e => ?_)
  · exact t50_34 e
  · exact t50_25 e
def b50_14 (F : Nat) : xm Unit := mr ()
theorem t50_14 {sc : Nat × (Nat → Int32)} {F : Nat} {r : Unit} {h' : xv_H} {d0 d1 d2 : Option Value} {h : xv_H} (e : b50_14 F h = some (r, h')) : xx sc 50 14 [d0, d1, d2] [] h (fun v g => v = none ∧ g = h') := by
  unfold b50_14 at e
  exact d_ret rfl e
def b50_0 (F : Nat) (l0 : Option Nat) (l1 : Option Nat) : xm Unit := mb (nn l1) fun v1 => mb (gr 112 v1) fun v2 => mb (pr 112 v1 none) fun _ => if ¬ v2 = none then b50_15 F l0 (some v1) v2 else b50_14 F
theorem t50_0 {sc : Nat × (Nat → Int32)} {F : Nat} {r : Unit} {h' : xv_H} {l0 : Option Nat} {l1 : Option Nat} {d2 : Option Value} {h : xv_H} (e : b50_0 F l0 l1 h = some (r, h')) : xx sc 50 0 [some (va_rf l0), some (va_rf l1), d2] [] h (fun v g => v = none ∧ g = h') := by
  unfold b50_0 at e
  refine xo_aload_nQ (w := l1) rfl rfl ?_
  refine d_nn e (fun v1 g e1 => ?_)
  subst g
  replace e := e1
  clear e1
  refine d_getr rfl e (fun v2 e => ?_)
  refine xo_astore_nQ (w := v2) rfl (Nat.le_of_ble_eq_true rfl) rfl ?_
  refine xo_aload_nQ (w := (some v1)) rfl rfl ?_
  refine xo_nullV rfl ?_
  refine d_putr (w := none) rfl e (fun h e => ?_)
  refine xo_aload_nQ (w := v2) rfl rfl ?_
  refine d_ifnonnull (w := v2) rfl rfl e (fun _ e => ?_) (fun _ e => ?_)
  · exact t50_15 e
  · exact t50_14 e
def m50 (F : Nat) (this : Nat) (p0 : Option Nat) : xm Unit := b50_0 F (some this) p0
theorem t50 {sc : Nat × (Nat → Int32)} {F : Nat} {this : Nat} {p0 : Option Nat} {h : xv_H} {r : Unit} {h' : xv_H} (e : m50 F this p0 h = some (r, h')) : xr sc 50 [.ref this, va_rf p0] h (fun v g => v = none ∧ g = h') := by
  have e0 : xv_ent (xt_mx 50) [.ref this, va_rf p0] = [some (va_rf (some this)), some (va_rf p0), none] := by simp [xv_ent, xv_sl, va_rf_cat, cat_int, cat_long, cat_ref, cat_null, va_rf_some, show xt_mx 50 = 3 from rfl]
  unfold xr
  rw [e0]
  exact t50_0 e
-- CellTree.beginWork(ILCellTree$Task;III)Z
def b10_60 (F : Nat) (l0 : Option Nat) (l2 : Option Nat) (l3 : Int32) (l4 : Int32) (l5 : Int32) (l6 : Option Nat) : xm Int32 := mb (nn l6) fun v1 => mb (gr 102 v1) fun v2 => mb (nn v2) fun v3 => mb (vc 2 v3) fun _ => mb (m13 F v3 l2 l3 l4 l5) fun _ => mb (pr 109 v1 (some (xv_SB + 15))) fun _ => mb (vc 1 v1) fun _ => mb (m14 F v1) fun _ => mb (nn l0) fun v4 => mb (vc 0 v4) fun _ => mb (m50 F v4 (some v1)) fun _ => mb (bz (1 : Int32)) fun _ => mr (1 : Int32)
theorem t10_60 {sc : Nat × (Nat → Int32)} {F : Nat} {r : Int32} {h' : xv_H} {l0 : Option Nat} {l2 : Option Nat} {l3 : Int32} {l4 : Int32} {l5 : Int32} {l6 : Option Nat} {d1 : Option Value} {h : xv_H} (e : b10_60 F l0 l2 l3 l4 l5 l6 h = some (r, h')) : xx sc 10 60 [some (va_rf l0), d1, some (va_rf l2), some (.int l3), some (.int l4), some (.int l5), some (va_rf l6)] [] h (fun v g => v = some (.int r) ∧ g = h') := by
  unfold b10_60 at e
  refine xo_aloadQ (w := l6) rfl rfl ?_
  refine d_nn e (fun v1 g e1 => ?_)
  subst g
  replace e := e1
  clear e1
  refine d_getr rfl e (fun v2 e => ?_)
  refine xo_aload_nQ (w := l2) rfl rfl ?_
  refine xo_iload_n rfl rfl ?_
  refine xo_iload rfl rfl ?_
  refine xo_iload rfl rfl ?_
  refine d_nn e (fun v3 g e1 => ?_)
  subst g
  replace e := e1
  clear e1
  refine d_virtual_v (av := [va_rf l2, .int l3, .int l4, .int l5]) (rest := []) rfl ⟨by decide, by decide⟩ rfl rfl (by simp [xv_fit, va_rf_cat, cat_int, cat_long, cat_ref, cat_null, show xt_mx 13 = 5 from rfl, show xt_lg 13 = [] from rfl]) (by simp [xv_room, va_rf_cat, cat_int, cat_long, cat_ref, cat_null]) (fun x0 h1 e1 => t13 e1) e (fun _ h e => ?_)
  refine xo_aloadQ (w := (some v1)) rfl rfl ?_
  refine xo_getsV rfl ?_
  refine d_putr (w := (some (xv_SB + 15))) rfl e (fun h e => ?_)
  refine xo_aloadQ (w := (some v1)) rfl rfl ?_
  refine d_virtual_v (av := []) (rest := []) rfl ⟨by decide, by decide⟩ rfl rfl (by simp [xv_fit, va_rf_cat, cat_int, cat_long, cat_ref, cat_null, show xt_mx 14 = 1 from rfl, show xt_lg 14 = [] from rfl]) (by simp [xv_room, va_rf_cat, cat_int, cat_long, cat_ref, cat_null]) (fun x0 h1 e1 => t14 e1) e (fun _ h e => ?_)
  refine xo_aload_nQ (w := l0) rfl rfl ?_
  refine xo_aloadQ (w := (some v1)) rfl rfl ?_
  refine d_nn e (fun v4 g e1 => ?_)
  subst g
  replace e := e1
  clear e1
  refine d_virtual_v (av := [va_rf (some v1)]) (rest := []) rfl ⟨by decide, by decide⟩ rfl rfl (by simp [xv_fit, va_rf_cat, cat_int, cat_long, cat_ref, cat_null, show xt_mx 50 = 3 from rfl, show xt_lg 50 = [] from rfl]) (by simp [xv_room, va_rf_cat, cat_int, cat_long, cat_ref, cat_null]) (fun x0 h1 e1 => t50 e1) e (fun _ h e => ?_)
  refine xo_iconstV (x := 1) rfl (by decide) ?_
  exact d_zret rfl e
def b10_58 (F : Nat) : xm Int32 := mb (bz (0 : Int32)) fun _ => mr (0 : Int32)
theorem t10_58 {sc : Nat × (Nat → Int32)} {F : Nat} {r : Int32} {h' : xv_H} {d0 d1 d2 d3 d4 d5 d6 : Option Value} {h : xv_H} (e : b10_58 F h = some (r, h')) : xx sc 10 58 [d0, d1, d2, d3, d4, d5, d6] [] h (fun v g => v = some (.int r) ∧ g = h') := by
  unfold b10_58 at e
  refine xo_iconstV (x := 0) rfl (by decide) ?_
  exact d_zret rfl e
def b10_46 (F : Nat) (l0 : Option Nat) (l2 : Option Nat) (l3 : Int32) (l4 : Int32) (l5 : Int32) (l6 : Option Nat) : xm Int32 := mb (nn l6) fun v1 => mb (gr 102 v1) fun v2 => mb (nn v2) fun v3 => mb (gi 207 v3) fun v4 => if ¬ v4 = (1 : Int32) then b10_60 F l0 l2 l3 l4 l5 (some v1) else b10_58 F
theorem t10_46 {sc : Nat × (Nat → Int32)} {F : Nat} {r : Int32} {h' : xv_H} {l0 : Option Nat} {l2 : Option Nat} {l3 : Int32} {l4 : Int32} {l5 : Int32} {l6 : Option Nat} {d1 : Option Value} {h : xv_H} (e : b10_46 F l0 l2 l3 l4 l5 l6 h = some (r, h')) : xx sc 10 46 [some (va_rf l0), d1, some (va_rf l2), some (.int l3), some (.int l4), some (.int l5), some (va_rf l6)] [] h (fun v g => v = some (.int r) ∧ g = h') := by
  unfold b10_46 at e
  refine xo_aloadQ (w := l6) rfl rfl ?_
  refine d_nn e (fun v1 g e1 => ?_)
  subst g
  replace e := e1
  clear e1
  refine d_getr rfl e (fun v2 e => ?_)
  refine d_nn e (fun v3 g e1 => ?_)
  subst g
  replace e := e1
  clear e1
  refine d_geti rfl e (fun v4 e => ?_)
  refine xo_iconstV (x := 1) rfl (by decide) ?_
  refine d_icmp_ne rfl rfl e (fun _ e => ?_) (fun _ e => ?_)
  · exact t10_60 e
  · exact t10_58 e
def b10_30 (F : Nat) (l0 : Option Nat) (l1 : Int32) (l2 : Option Nat) (l3 : Int32) (l4 : Int32) (l5 : Int32) : xm Int32 := mb (nn l0) fun v1 => mb (gr 1 v1) fun v2 => mb (nn v2) fun v3 => mb (lr 105 v3 l1) fun v4 => mb (nn v4) fun v5 => mb (gi 107 v5) fun v6 => if v6 = 0 then b10_58 F else b10_46 F (some v1) l2 l3 l4 l5 (some v5)
theorem t10_30 {sc : Nat × (Nat → Int32)} {F : Nat} {r : Int32} {h' : xv_H} {l0 : Option Nat} {l1 : Int32} {l2 : Option Nat} {l3 : Int32} {l4 : Int32} {l5 : Int32} {d6 : Option Value} {h : xv_H} (e : b10_30 F l0 l1 l2 l3 l4 l5 h = some (r, h')) : xx sc 10 30 [some (va_rf l0), some (.int l1), some (va_rf l2), some (.int l3), some (.int l4), some (.int l5), d6] [] h (fun v g => v = some (.int r) ∧ g = h') := by
  unfold b10_30 at e
  refine xo_aload_nQ (w := l0) rfl rfl ?_
  refine d_nn e (fun v1 g e1 => ?_)
  subst g
  replace e := e1
  clear e1
  refine d_getr rfl e (fun v2 e => ?_)
  refine xo_iload_n rfl rfl ?_
  refine d_nn e (fun v3 g e1 => ?_)
  subst g
  replace e := e1
  clear e1
  refine d_aald rfl e (fun v4 e => ?_)
  refine xo_astoreQ (w := v4) rfl (Nat.le_of_ble_eq_true rfl) rfl ?_
  refine xo_aloadQ (w := v4) rfl rfl ?_
  refine d_nn e (fun v5 g e1 => ?_)
  subst g
  replace e := e1
  clear e1
  refine d_getz rfl e (fun v6 e => ?_)
  refine d_if_eq rfl rfl e (fun _ e => ?_) (fun _ e => ?_)
  · exact t10_58 e
  · exact t10_46 e
def b10_28 (F : Nat) : xm Int32 := mb (bz (0 : Int32)) fun _ => mr (0 : Int32)
theorem t10_28 {sc : Nat × (Nat → Int32)} {F : Nat} {r : Int32} {h' : xv_H} {d0 d1 d2 d3 d4 d5 d6 : Option Value} {h : xv_H} (e : b10_28 F h = some (r, h')) : xx sc 10 28 [d0, d1, d2, d3, d4, d5, d6] [] h (fun v g => v = some (.int r) ∧ g = h') := by
  unfold b10_28 at e
  refine xo_iconstV (x := 0) rfl (by decide) ?_
  exact d_zret rfl e
def b10_22 (F : Nat) (l0 : Option Nat) (l1 : Int32) (l2 : Option Nat) (l3 : Int32) (l4 : Int32) (l5 : Int32) : xm Int32 := if l3 ≤ l4 then b10_30 F l0 l1 l2 l3 l4 l5 else b10_28 F
theorem t10_22 {sc : Nat × (Nat → Int32)} {F : Nat} {r : Int32} {h' : xv_H} {l0 : Option Nat} {l1 : Int32} {l2 : Option Nat} {l3 : Int32} {l4 : Int32} {l5 : Int32} {d6 : Option Value} {h : xv_H} (e : b10_22 F l0 l1 l2 l3 l4 l5 h = some (r, h')) : xx sc 10 22 [some (va_rf l0), some (.int l1), some (va_rf l2), some (.int l3), some (.int l4), some (.int l5), d6] [] h (fun v g => v = some (.int r) ∧ g = h') := by
  unfold b10_22 at e
  refine xo_iload rfl rfl ?_
  refine xo_iload_n rfl rfl ?_
  refine d_icmp_ge rfl rfl e (fun _ e => ?_) (fun _ e => ?_)
  · exact t10_30 e
  · exact t10_28 e
def b10_14 (F : Nat) (l0 : Option Nat) (l1 : Int32) (l2 : Option Nat) (l3 : Int32) (l4 : Int32) (l5 : Int32) : xm Int32 := mb (m12 F l4) fun v1 => if v1 = 0 then b10_28 F else b10_22 F l0 l1 l2 l3 l4 l5
theorem t10_14 {sc : Nat × (Nat → Int32)} {F : Nat} {r : Int32} {h' : xv_H} {l0 : Option Nat} {l1 : Int32} {l2 : Option Nat} {l3 : Int32} {l4 : Int32} {l5 : Int32} {d6 : Option Value} {h : xv_H} (e : b10_14 F l0 l1 l2 l3 l4 l5 h = some (r, h')) : xx sc 10 14 [some (va_rf l0), some (.int l1), some (va_rf l2), some (.int l3), some (.int l4), some (.int l5), d6] [] h (fun v g => v = some (.int r) ∧ g = h') := by
  unfold b10_14 at e
  refine xo_iload rfl rfl ?_
  refine d_static_i (av := [.int l4]) (rest := []) rfl ⟨by decide, by decide, by decide⟩ rfl rfl (by simp [xv_fit, va_rf_cat, cat_int, cat_long, cat_ref, cat_null, show xt_mx 12 = 1 from rfl, show xt_lg 12 = [] from rfl]) (by simp [xv_room, va_rf_cat, cat_int, cat_long, cat_ref, cat_null]) (fun x0 h1 e1 => t12 e1) e (fun v1 h e => ?_)
  refine d_if_eq rfl rfl e (fun _ e => ?_) (fun _ e => ?_)
  · exact t10_28 e
  · exact t10_22 e
def b10_7 (F : Nat) (l0 : Option Nat) (l1 : Int32) (l2 : Option Nat) (l3 : Int32) (l4 : Int32) (l5 : Int32) : xm Int32 := mb (m12 F l3) fun v1 => if v1 = 0 then b10_28 F else b10_14 F l0 l1 l2 l3 l4 l5
theorem t10_7 {sc : Nat × (Nat → Int32)} {F : Nat} {r : Int32} {h' : xv_H} {l0 : Option Nat} {l1 : Int32} {l2 : Option Nat} {l3 : Int32} {l4 : Int32} {l5 : Int32} {d6 : Option Value} {h : xv_H} (e : b10_7 F l0 l1 l2 l3 l4 l5 h = some (r, h')) : xx sc 10 7 [some (va_rf l0), some (.int l1), some (va_rf l2), some (.int l3), some (.int l4), some (.int l5), d6] [] h (fun v g => v = some (.int r) ∧ g = h') := by
  unfold b10_7 at e
  refine xo_iload_n rfl rfl ?_
  refine d_static_i (av := [.int l3]) (rest := []) rfl ⟨by decide, by decide, by decide⟩ rfl rfl (by simp [xv_fit, va_rf_cat, cat_int, cat_long, cat_ref, cat_null, show xt_mx 12 = 1 from rfl, show xt_lg 12 = [] from rfl]) (by simp [xv_room, va_rf_cat, cat_int, cat_long, cat_ref, cat_null]) (fun x0 h1 e1 => t12 e1) e (fun v1 h e => ?_)
  refine d_if_eq rfl rfl e (fun _ e => ?_) (fun _ e => ?_)
  · exact t10_28 e
  · exact t10_14 e
def b10_0 (F : Nat) (l0 : Option Nat) (l1 : Int32) (l2 : Option Nat) (l3 : Int32) (l4 : Int32) (l5 : Int32) : xm Int32 := mb (m11 F l1) fun v1 => if v1 = 0 then b10_28 F else b10_7 F l0 l1 l2 l3 l4 l5
theorem t10_0 {sc : Nat × (Nat → Int32)} {F : Nat} {r : Int32} {h' : xv_H} {l0 : Option Nat} {l1 : Int32} {l2 : Option Nat} {l3 : Int32} {l4 : Int32} {l5 : Int32} {d6 : Option Value} {h : xv_H} (e : b10_0 F l0 l1 l2 l3 l4 l5 h = some (r, h')) : xx sc 10 0 [some (va_rf l0), some (.int l1), some (va_rf l2), some (.int l3), some (.int l4), some (.int l5), d6] [] h (fun v g => v = some (.int r) ∧ g = h') := by
  unfold b10_0 at e
  refine xo_iload_n rfl rfl ?_
  refine d_static_i (av := [.int l1]) (rest := []) rfl ⟨by decide, by decide, by decide⟩ rfl rfl (by simp [xv_fit, va_rf_cat, cat_int, cat_long, cat_ref, cat_null, show xt_mx 11 = 1 from rfl, show xt_lg 11 = [] from rfl]) (by simp [xv_room, va_rf_cat, cat_int, cat_long, cat_ref, cat_null]) (fun x0 h1 e1 => t11 e1) e (fun v1 h e => ?_)
  refine d_if_eq rfl rfl e (fun _ e => ?_) (fun _ e => ?_)
  · exact t10_28 e
  · exact t10_7 e
def m10 (F : Nat) (this : Nat) (p0 : Int32) (p1 : Option Nat) (p2 : Int32) (p3 : Int32) (p4 : Int32) : xm Int32 := b10_0 F (some this) p0 p1 p2 p3 p4
theorem t10 {sc : Nat × (Nat → Int32)} {F : Nat} {this : Nat} {p0 : Int32} {p1 : Option Nat} {p2 : Int32} {p3 : Int32} {p4 : Int32} {h : xv_H} {r : Int32} {h' : xv_H} (e : m10 F this p0 p1 p2 p3 p4 h = some (r, h')) : xr sc 10 [.ref this, .int p0, va_rf p1, .int p2, .int p3, .int p4] h (fun v g => v = some (.int r) ∧ g = h') := by
  have e0 : xv_ent (xt_mx 10) [.ref this, .int p0, va_rf p1, .int p2, .int p3, .int p4] = [some (va_rf (some this)), some (.int p0), some (va_rf p1), some (.int p2), some (.int p3), some (.int p4), none] := by simp [xv_ent, xv_sl, va_rf_cat, cat_int, cat_long, cat_ref, cat_null, va_rf_some, show xt_mx 10 = 7 from rfl]
  unfold xr
  rw [e0]
  exact t10_0 e
-- CellTree.get(II)Z
def b9_0 (F : Nat) (l0 : Option Nat) (l1 : Int32) (l2 : Int32) : xm Int32 := mb (nn l0) fun v1 => mb (vc 0 v1) fun _ => mb (m10 F v1 l1 (some (xv_SB + 3)) l2 l2 (0 : Int32)) fun v2 => mb (bz v2) fun _ => mr v2
theorem t9_0 {sc : Nat × (Nat → Int32)} {F : Nat} {r : Int32} {h' : xv_H} {l0 : Option Nat} {l1 : Int32} {l2 : Int32} {h : xv_H} (e : b9_0 F l0 l1 l2 h = some (r, h')) : xx sc 9 0 [some (va_rf l0), some (.int l1), some (.int l2)] [] h (fun v g => v = some (.int r) ∧ g = h') := by
  unfold b9_0 at e
  refine xo_aload_nQ (w := l0) rfl rfl ?_
  refine xo_iload_n rfl rfl ?_
  refine xo_getsV rfl ?_
  refine xo_iload_n rfl rfl ?_
  refine xo_iload_n rfl rfl ?_
  refine xo_iconstV (x := 0) rfl (by decide) ?_
  refine d_nn e (fun v1 g e1 => ?_)
  subst g
  replace e := e1
  clear e1
  refine d_virtual_i (av := [.int l1, va_rf (some (xv_SB + 3)), .int l2, .int l2, .int (0 : Int32)]) (rest := []) rfl ⟨by decide, by decide⟩ rfl rfl (by simp [xv_fit, va_rf_cat, cat_int, cat_long, cat_ref, cat_null, show xt_mx 10 = 7 from rfl, show xt_lg 10 = [] from rfl]) (by simp [xv_room, va_rf_cat, cat_int, cat_long, cat_ref, cat_null]) (fun x0 h1 e1 => t10 e1) e (fun v2 h e => ?_)
  exact d_zret rfl e
def m9 (F : Nat) (this : Nat) (p0 : Int32) (p1 : Int32) : xm Int32 := b9_0 F (some this) p0 p1
theorem t9 {sc : Nat × (Nat → Int32)} {F : Nat} {this : Nat} {p0 : Int32} {p1 : Int32} {h : xv_H} {r : Int32} {h' : xv_H} (e : m9 F this p0 p1 h = some (r, h')) : xr sc 9 [.ref this, .int p0, .int p1] h (fun v g => v = some (.int r) ∧ g = h') := by
  have e0 : xv_ent (xt_mx 9) [.ref this, .int p0, .int p1] = [some (va_rf (some this)), some (.int p0), some (.int p1)] := by simp [xv_ent, xv_sl, va_rf_cat, cat_int, cat_long, cat_ref, cat_null, va_rf_some, show xt_mx 9 = 3 from rfl]
  unfold xr
  rw [e0]
  exact t9_0 e
-- CellTree.put(III)Z
def b63_0 (F : Nat) (l0 : Option Nat) (l1 : Int32) (l2 : Int32) (l3 : Int32) : xm Int32 := mb (nn l0) fun v1 => mb (vc 0 v1) fun _ => mb (m10 F v1 l1 (some (xv_SB + 4)) l2 l2 l3) fun v2 => mb (bz v2) fun _ => mr v2
theorem t63_0 {sc : Nat × (Nat → Int32)} {F : Nat} {r : Int32} {h' : xv_H} {l0 : Option Nat} {l1 : Int32} {l2 : Int32} {l3 : Int32} {h : xv_H} (e : b63_0 F l0 l1 l2 l3 h = some (r, h')) : xx sc 63 0 [some (va_rf l0), some (.int l1), some (.int l2), some (.int l3)] [] h (fun v g => v = some (.int r) ∧ g = h') := by
  unfold b63_0 at e
  refine xo_aload_nQ (w := l0) rfl rfl ?_
  refine xo_iload_n rfl rfl ?_
  refine xo_getsV rfl ?_
  refine xo_iload_n rfl rfl ?_
  refine xo_iload_n rfl rfl ?_
  refine xo_iload_n rfl rfl ?_
  refine d_nn e (fun v1 g e1 => ?_)
  subst g
  replace e := e1
  clear e1
  refine d_virtual_i (av := [.int l1, va_rf (some (xv_SB + 4)), .int l2, .int l2, .int l3]) (rest := []) rfl ⟨by decide, by decide⟩ rfl rfl (by simp [xv_fit, va_rf_cat, cat_int, cat_long, cat_ref, cat_null, show xt_mx 10 = 7 from rfl, show xt_lg 10 = [] from rfl]) (by simp [xv_room, va_rf_cat, cat_int, cat_long, cat_ref, cat_null]) (fun x0 h1 e1 => t10 e1) e (fun v2 h e => ?_)
  exact d_zret rfl e
def m63 (F : Nat) (this : Nat) (p0 : Int32) (p1 : Int32) (p2 : Int32) : xm Int32 := b63_0 F (some this) p0 p1 p2
theorem t63 {sc : Nat × (Nat → Int32)} {F : Nat} {this : Nat} {p0 : Int32} {p1 : Int32} {p2 : Int32} {h : xv_H} {r : Int32} {h' : xv_H} (e : m63 F this p0 p1 p2 h = some (r, h')) : xr sc 63 [.ref this, .int p0, .int p1, .int p2] h (fun v g => v = some (.int r) ∧ g = h') := by
  have e0 : xv_ent (xt_mx 63) [.ref this, .int p0, .int p1, .int p2] = [some (va_rf (some this)), some (.int p0), some (.int p1), some (.int p2)] := by simp [xv_ent, xv_sl, va_rf_cat, cat_int, cat_long, cat_ref, cat_null, va_rf_some, show xt_mx 63 = 4 from rfl]
  unfold xr
  rw [e0]
  exact t63_0 e
-- CellTree.remove(II)Z
def b64_0 (F : Nat) (l0 : Option Nat) (l1 : Int32) (l2 : Int32) : xm Int32 := mb (nn l0) fun v1 => mb (vc 0 v1) fun _ => mb (m10 F v1 l1 (some (xv_SB + 5)) l2 l2 (0 : Int32)) fun v2 => mb (bz v2) fun _ => mr v2
theorem t64_0 {sc : Nat × (Nat → Int32)} {F : Nat} {r : Int32} {h' : xv_H} {l0 : Option Nat} {l1 : Int32} {l2 : Int32} {h : xv_H} (e : b64_0 F l0 l1 l2 h = some (r, h')) : xx sc 64 0 [some (va_rf l0), some (.int l1), some (.int l2)] [] h (fun v g => v = some (.int r) ∧ g = h') := by
  unfold b64_0 at e
  refine xo_aload_nQ (w := l0) rfl rfl ?_
  refine xo_iload_n rfl rfl ?_
  refine xo_getsV rfl ?_
  refine xo_iload_n rfl rfl ?_
  refine xo_iload_n rfl rfl ?_
  refine xo_iconstV (x := 0) rfl (by decide) ?_
  refine d_nn e (fun v1 g e1 => ?_)
  subst g
  replace e := e1
  clear e1
  refine d_virtual_i (av := [.int l1, va_rf (some (xv_SB + 5)), .int l2, .int l2, .int (0 : Int32)]) (rest := []) rfl ⟨by decide, by decide⟩ rfl rfl (by simp [xv_fit, va_rf_cat, cat_int, cat_long, cat_ref, cat_null, show xt_mx 10 = 7 from rfl, show xt_lg 10 = [] from rfl]) (by simp [xv_room, va_rf_cat, cat_int, cat_long, cat_ref, cat_null]) (fun x0 h1 e1 => t10 e1) e (fun v2 h e => ?_)
  exact d_zret rfl e
def m64 (F : Nat) (this : Nat) (p0 : Int32) (p1 : Int32) : xm Int32 := b64_0 F (some this) p0 p1
theorem t64 {sc : Nat × (Nat → Int32)} {F : Nat} {this : Nat} {p0 : Int32} {p1 : Int32} {h : xv_H} {r : Int32} {h' : xv_H} (e : m64 F this p0 p1 h = some (r, h')) : xr sc 64 [.ref this, .int p0, .int p1] h (fun v g => v = some (.int r) ∧ g = h') := by
  have e0 : xv_ent (xt_mx 64) [.ref this, .int p0, .int p1] = [some (va_rf (some this)), some (.int p0), some (.int p1)] := by simp [xv_ent, xv_sl, va_rf_cat, cat_int, cat_long, cat_ref, cat_null, va_rf_some, show xt_mx 64 = 3 from rfl]
  unfold xr
  rw [e0]
  exact t64_0 e
-- CellTree.scan(III)Z
def b65_0 (F : Nat) (l0 : Option Nat) (l1 : Int32) (l2 : Int32) (l3 : Int32) : xm Int32 := mb (nn l0) fun v1 => mb (vc 0 v1) fun _ => mb (m10 F v1 l1 (some (xv_SB + 6)) l2 l3 (0 : Int32)) fun v2 => mb (bz v2) fun _ => mr v2
theorem t65_0 {sc : Nat × (Nat → Int32)} {F : Nat} {r : Int32} {h' : xv_H} {l0 : Option Nat} {l1 : Int32} {l2 : Int32} {l3 : Int32} {h : xv_H} (e : b65_0 F l0 l1 l2 l3 h = some (r, h')) : xx sc 65 0 [some (va_rf l0), some (.int l1), some (.int l2), some (.int l3)] [] h (fun v g => v = some (.int r) ∧ g = h') := by
  unfold b65_0 at e
  refine xo_aload_nQ (w := l0) rfl rfl ?_
  refine xo_iload_n rfl rfl ?_
  refine xo_getsV rfl ?_
  refine xo_iload_n rfl rfl ?_
  refine xo_iload_n rfl rfl ?_
  refine xo_iconstV (x := 0) rfl (by decide) ?_
  refine d_nn e (fun v1 g e1 => ?_)
  subst g
  replace e := e1
  clear e1
  refine d_virtual_i (av := [.int l1, va_rf (some (xv_SB + 6)), .int l2, .int l3, .int (0 : Int32)]) (rest := []) rfl ⟨by decide, by decide⟩ rfl rfl (by simp [xv_fit, va_rf_cat, cat_int, cat_long, cat_ref, cat_null, show xt_mx 10 = 7 from rfl, show xt_lg 10 = [] from rfl]) (by simp [xv_room, va_rf_cat, cat_int, cat_long, cat_ref, cat_null]) (fun x0 h1 e1 => t10 e1) e (fun v2 h e => ?_)
  exact d_zret rfl e
def m65 (F : Nat) (this : Nat) (p0 : Int32) (p1 : Int32) (p2 : Int32) : xm Int32 := b65_0 F (some this) p0 p1 p2
theorem t65 {sc : Nat × (Nat → Int32)} {F : Nat} {this : Nat} {p0 : Int32} {p1 : Int32} {p2 : Int32} {h : xv_H} {r : Int32} {h' : xv_H} (e : m65 F this p0 p1 p2 h = some (r, h')) : xr sc 65 [.ref this, .int p0, .int p1, .int p2] h (fun v g => v = some (.int r) ∧ g = h') := by
  have e0 : xv_ent (xt_mx 65) [.ref this, .int p0, .int p1, .int p2] = [some (va_rf (some this)), some (.int p0), some (.int p1), some (.int p2)] := by simp [xv_ent, xv_sl, va_rf_cat, cat_int, cat_long, cat_ref, cat_null, va_rf_some, show xt_mx 65 = 4 from rfl]
  unfold xr
  rw [e0]
  exact t65_0 e
-- CellTree.messages()I
def b66_0 (F : Nat) (l0 : Option Nat) : xm Int32 := mb (nn l0) fun v1 => mb (gr 2 v1) fun v2 => mb (nn v2) fun v3 => mb (vc 10 v3) fun _ => mb (m53 F v3) fun v4 => mr v4
theorem t66_0 {sc : Nat × (Nat → Int32)} {F : Nat} {r : Int32} {h' : xv_H} {l0 : Option Nat} {h : xv_H} (e : b66_0 F l0 h = some (r, h')) : xx sc 66 0 [some (va_rf l0)] [] h (fun v g => v = some (.int r) ∧ g = h') := by
  unfold b66_0 at e
  refine xo_aload_nQ (w := l0) rfl rfl ?_
  refine d_nn e (fun v1 g e1 => ?_)
  subst g
  replace e := e1
  clear e1
  refine d_getr rfl e (fun v2 e => ?_)
  refine d_nn e (fun v3 g e1 => ?_)
  subst g
  replace e := e1
  clear e1
  refine d_virtual_i (av := []) (rest := []) rfl ⟨by decide, by decide⟩ rfl rfl (by simp [xv_fit, va_rf_cat, cat_int, cat_long, cat_ref, cat_null, show xt_mx 53 = 1 from rfl, show xt_lg 53 = [] from rfl]) (by simp [xv_room, va_rf_cat, cat_int, cat_long, cat_ref, cat_null]) (fun x0 h1 e1 => t53 e1) e (fun v4 h e => ?_)
  exact d_iret rfl e
def m66 (F : Nat) (this : Nat) : xm Int32 := b66_0 F (some this)
theorem t66 {sc : Nat × (Nat → Int32)} {F : Nat} {this : Nat} {h : xv_H} {r : Int32} {h' : xv_H} (e : m66 F this h = some (r, h')) : xr sc 66 [.ref this] h (fun v g => v = some (.int r) ∧ g = h') := by
  have e0 : xv_ent (xt_mx 66) [.ref this] = [some (va_rf (some this))] := by simp [xv_ent, xv_sl, va_rf_cat, cat_int, cat_long, cat_ref, cat_null, va_rf_some, show xt_mx 66 = 1 from rfl]
  unfold xr
  rw [e0]
  exact t66_0 e
-- CellTree.isUnderWay(I)Z
def b68_20 (F : Nat) (s0 : Int32) : xm Int32 := mb (bz s0) fun _ => mr s0
theorem t68_20 {sc : Nat × (Nat → Int32)} {F : Nat} {r : Int32} {h' : xv_H} {s0 : Int32} {d0 d1 : Option Value} {h : xv_H} (e : b68_20 F s0 h = some (r, h')) : xx sc 68 20 [d0, d1] [.int s0] h (fun v g => v = some (.int r) ∧ g = h') := by
  unfold b68_20 at e
  exact d_zret rfl e
def b68_19 (F : Nat) : xm Int32 := b68_20 F (0 : Int32)
theorem t68_19 {sc : Nat × (Nat → Int32)} {F : Nat} {r : Int32} {h' : xv_H} {d0 d1 : Option Value} {h : xv_H} (e : b68_19 F h = some (r, h')) : xx sc 68 19 [d0, d1] [] h (fun v g => v = some (.int r) ∧ g = h') := by
  unfold b68_19 at e
  refine xo_iconstV (x := 0) rfl (by decide) ?_
  exact t68_20 e
def b68_15 (F : Nat) : xm Int32 := b68_20 F (1 : Int32)
theorem t68_15 {sc : Nat × (Nat → Int32)} {F : Nat} {r : Int32} {h' : xv_H} {d0 d1 : Option Value} {h : xv_H} (e : b68_15 F h = some (r, h')) : xx sc 68 15 [d0, d1] [] h (fun v g => v = some (.int r) ∧ g = h') := by
  unfold b68_15 at e
  refine xo_iconstV (x := 1) rfl (by decide) ?_
  refine xo_goto rfl rfl ?_
  exact t68_20 e
def b68_4 (F : Nat) (l0 : Option Nat) (l1 : Int32) : xm Int32 := mb (nn l0) fun v1 => mb (gr 2 v1) fun v2 => mb (nn v2) fun v3 => mb (vc 10 v3) fun _ => mb (m53 F v3) fun v4 => if v4 ≤ l1 then b68_19 F else b68_15 F
theorem t68_4 {sc : Nat × (Nat → Int32)} {F : Nat} {r : Int32} {h' : xv_H} {l0 : Option Nat} {l1 : Int32} {h : xv_H} (e : b68_4 F l0 l1 h = some (r, h')) : xx sc 68 4 [some (va_rf l0), some (.int l1)] [] h (fun v g => v = some (.int r) ∧ g = h') := by
  unfold b68_4 at e
  refine xo_iload_n rfl rfl ?_
  refine xo_aload_nQ (w := l0) rfl rfl ?_
  refine d_nn e (fun v1 g e1 => ?_)
  subst g
  replace e := e1
  clear e1
  refine d_getr rfl e (fun v2 e => ?_)
  refine d_nn e (fun v3 g e1 => ?_)
  subst g
  replace e := e1
  clear e1
  refine d_virtual_i (av := []) (rest := [.int l1]) rfl ⟨by decide, by decide⟩ rfl rfl (by simp [xv_fit, va_rf_cat, cat_int, cat_long, cat_ref, cat_null, show xt_mx 53 = 1 from rfl, show xt_lg 53 = [] from rfl]) (by simp [xv_room, va_rf_cat, cat_int, cat_long, cat_ref, cat_null]) (fun x0 h1 e1 => t53 e1) e (fun v4 h e => ?_)
  refine d_icmp_ge rfl rfl e (fun _ e => ?_) (fun _ e => ?_)
  · exact t68_19 e
  · exact t68_15 e
def b68_0 (F : Nat) (l0 : Option Nat) (l1 : Int32) : xm Int32 := if l1 < 0 then b68_19 F else b68_4 F l0 l1
theorem t68_0 {sc : Nat × (Nat → Int32)} {F : Nat} {r : Int32} {h' : xv_H} {l0 : Option Nat} {l1 : Int32} {h : xv_H} (e : b68_0 F l0 l1 h = some (r, h')) : xx sc 68 0 [some (va_rf l0), some (.int l1)] [] h (fun v g => v = some (.int r) ∧ g = h') := by
  unfold b68_0 at e
  refine xo_iload_n rfl rfl ?_
  refine d_if_lt rfl rfl e (fun _ e => ?_) (fun _ e => ?_)
  · exact t68_19 e
  · exact t68_4 e
def m68 (F : Nat) (this : Nat) (p0 : Int32) : xm Int32 := b68_0 F (some this) p0
theorem t68 {sc : Nat × (Nat → Int32)} {F : Nat} {this : Nat} {p0 : Int32} {h : xv_H} {r : Int32} {h' : xv_H} (e : m68 F this p0 h = some (r, h')) : xr sc 68 [.ref this, .int p0] h (fun v g => v = some (.int r) ∧ g = h') := by
  have e0 : xv_ent (xt_mx 68) [.ref this, .int p0] = [some (va_rf (some this)), some (.int p0)] := by simp [xv_ent, xv_sl, va_rf_cat, cat_int, cat_long, cat_ref, cat_null, va_rf_some, show xt_mx 68 = 2 from rfl]
  unfold xr
  rw [e0]
  exact t68_0 e
-- jdk/internal/util/Preconditions.checkIndex(IILjava/util/function/BiFunction;)I
def b71_16 (F : Nat) (l0 : Int32) : xm Int32 := mr l0
theorem t71_16 {sc : Nat × (Nat → Int32)} {F : Nat} {r : Int32} {h' : xv_H} {l0 : Int32} {d1 d2 : Option Value} {h : xv_H} (e : b71_16 F l0 h = some (r, h')) : xx sc 71 16 [some (.int l0), d1, d2] [] h (fun v g => v = some (.int r) ∧ g = h') := by
  unfold b71_16 at e
  refine xo_iload_n rfl rfl ?_
  exact d_iret rfl e
def b71_9 (F : Nat) (l0 : Int32) (l1 : Int32) (l2 : Option Nat) : xm Int32 := fun _ => none
theorem t71_9 {sc : Nat × (Nat → Int32)} {F : Nat} {r : Int32} {h' : xv_H} {l0 : Int32} {l1 : Int32} {l2 : Option Nat} {h : xv_H} (e : b71_9 F l0 l1 l2 h = some (r, h')) : xx sc 71 9 [some (.int l0), some (.int l1), some (va_rf l2)] [] h (fun v g => v = some (.int r) ∧ g = h') := by
  cases e
def b71_4 (F : Nat) (l0 : Int32) (l1 : Int32) (l2 : Option Nat) : xm Int32 := if l0 < l1 then b71_16 F l0 else b71_9 F l0 l1 l2
theorem t71_4 {sc : Nat × (Nat → Int32)} {F : Nat} {r : Int32} {h' : xv_H} {l0 : Int32} {l1 : Int32} {l2 : Option Nat} {h : xv_H} (e : b71_4 F l0 l1 l2 h = some (r, h')) : xx sc 71 4 [some (.int l0), some (.int l1), some (va_rf l2)] [] h (fun v g => v = some (.int r) ∧ g = h') := by
  unfold b71_4 at e
  refine xo_iload_n rfl rfl ?_
  refine xo_iload_n rfl rfl ?_
  refine d_icmp_lt rfl rfl e (fun _ e => ?_) (fun _ e => ?_)
  · exact t71_16 e
  · exact t71_9 e
def b71_0 (F : Nat) (l0 : Int32) (l1 : Int32) (l2 : Option Nat) : xm Int32 := if l0 < 0 then b71_9 F l0 l1 l2 else b71_4 F l0 l1 l2
theorem t71_0 {sc : Nat × (Nat → Int32)} {F : Nat} {r : Int32} {h' : xv_H} {l0 : Int32} {l1 : Int32} {l2 : Option Nat} {h : xv_H} (e : b71_0 F l0 l1 l2 h = some (r, h')) : xx sc 71 0 [some (.int l0), some (.int l1), some (va_rf l2)] [] h (fun v g => v = some (.int r) ∧ g = h') := by
  unfold b71_0 at e
  refine xo_iload_n rfl rfl ?_
  refine d_if_lt rfl rfl e (fun _ e => ?_) (fun _ e => ?_)
  · exact t71_9 e
  · exact t71_4 e
def m71 (F : Nat) (p0 : Int32) (p1 : Int32) (p2 : Option Nat) : xm Int32 := b71_0 F p0 p1 p2
theorem t71 {sc : Nat × (Nat → Int32)} {F : Nat} {p0 : Int32} {p1 : Int32} {p2 : Option Nat} {h : xv_H} {r : Int32} {h' : xv_H} (e : m71 F p0 p1 p2 h = some (r, h')) : xr sc 71 [.int p0, .int p1, va_rf p2] h (fun v g => v = some (.int r) ∧ g = h') := by
  have e0 : xv_ent (xt_mx 71) [.int p0, .int p1, va_rf p2] = [some (.int p0), some (.int p1), some (va_rf p2)] := by simp [xv_ent, xv_sl, va_rf_cat, cat_int, cat_long, cat_ref, cat_null, va_rf_some, show xt_mx 71 = 3 from rfl]
  unfold xr
  rw [e0]
  exact t71_0 e
-- java/util/Objects.checkIndex(II)I
def b70_0 (F : Nat) (l0 : Int32) (l1 : Int32) : xm Int32 := mb (m71 F l0 l1 none) fun v1 => mr v1
theorem t70_0 {sc : Nat × (Nat → Int32)} {F : Nat} {r : Int32} {h' : xv_H} {l0 : Int32} {l1 : Int32} {h : xv_H} (e : b70_0 F l0 l1 h = some (r, h')) : xx sc 70 0 [some (.int l0), some (.int l1)] [] h (fun v g => v = some (.int r) ∧ g = h') := by
  unfold b70_0 at e
  refine xo_iload_n rfl rfl ?_
  refine xo_iload_n rfl rfl ?_
  refine xo_nullV rfl ?_
  refine d_static_i (av := [.int l0, .int l1, va_rf none]) (rest := []) rfl ⟨by decide, by decide, by decide⟩ rfl rfl (by simp [xv_fit, va_rf_cat, cat_int, cat_long, cat_ref, cat_null, show xt_mx 71 = 3 from rfl, show xt_lg 71 = [] from rfl]) (by simp [xv_room, va_rf_cat, cat_int, cat_long, cat_ref, cat_null]) (fun x0 h1 e1 => t71 e1) e (fun v1 h e => ?_)
  exact d_iret rfl e
def m70 (F : Nat) (p0 : Int32) (p1 : Int32) : xm Int32 := b70_0 F p0 p1
theorem t70 {sc : Nat × (Nat → Int32)} {F : Nat} {p0 : Int32} {p1 : Int32} {h : xv_H} {r : Int32} {h' : xv_H} (e : m70 F p0 p1 h = some (r, h')) : xr sc 70 [.int p0, .int p1] h (fun v g => v = some (.int r) ∧ g = h') := by
  have e0 : xv_ent (xt_mx 70) [.int p0, .int p1] = [some (.int p0), some (.int p1)] := by simp [xv_ent, xv_sl, va_rf_cat, cat_int, cat_long, cat_ref, cat_null, va_rf_some, show xt_mx 70 = 2 from rfl]
  unfold xr
  rw [e0]
  exact t70_0 e
-- java/util/ArrayList.elementData(I)Ljava/lang/Object;
def b72_0 (F : Nat) (l0 : Option Nat) (l1 : Int32) : xm (Option Nat) := mb (nn l0) fun v1 => mb (gr 1000 v1) fun v2 => mb (nn v2) fun v3 => mb (lr 109 v3 l1) fun v4 => mr v4
theorem t72_0 {sc : Nat × (Nat → Int32)} {F : Nat} {r : Option Nat} {h' : xv_H} {l0 : Option Nat} {l1 : Int32} {h : xv_H} (e : b72_0 F l0 l1 h = some (r, h')) : xx sc 72 0 [some (va_rf l0), some (.int l1)] [] h (fun v g => v = some (va_rf r) ∧ g = h') := by
  unfold b72_0 at e
  refine xo_aload_nQ (w := l0) rfl rfl ?_
  refine d_nn e (fun v1 g e1 => ?_)
  subst g
  replace e := e1
  clear e1
  refine d_getr rfl e (fun v2 e => ?_)
  refine xo_iload_n rfl rfl ?_
  refine d_nn e (fun v3 g e1 => ?_)
  subst g
  replace e := e1
  clear e1
  refine d_aald rfl e (fun v4 e => ?_)
  exact d_aret rfl e
def m72 (F : Nat) (this : Nat) (p0 : Int32) : xm (Option Nat) := b72_0 F (some this) p0
theorem t72 {sc : Nat × (Nat → Int32)} {F : Nat} {this : Nat} {p0 : Int32} {h : xv_H} {r : Option Nat} {h' : xv_H} (e : m72 F this p0 h = some (r, h')) : xr sc 72 [.ref this, .int p0] h (fun v g => v = some (va_rf r) ∧ g = h') := by
  have e0 : xv_ent (xt_mx 72) [.ref this, .int p0] = [some (va_rf (some this)), some (.int p0)] := by simp [xv_ent, xv_sl, va_rf_cat, cat_int, cat_long, cat_ref, cat_null, va_rf_some, show xt_mx 72 = 2 from rfl]
  unfold xr
  rw [e0]
  exact t72_0 e
-- java/util/ArrayList.get(I)Ljava/lang/Object;
def b69_0 (F : Nat) (l0 : Option Nat) (l1 : Int32) : xm (Option Nat) := mb (nn l0) fun v1 => mb (gi 1001 v1) fun v2 => mb (m70 F l1 v2) fun v3 => mb (vc 10 v1) fun _ => mb (m72 F v1 l1) fun v4 => mr v4
theorem t69_0 {sc : Nat × (Nat → Int32)} {F : Nat} {r : Option Nat} {h' : xv_H} {l0 : Option Nat} {l1 : Int32} {h : xv_H} (e : b69_0 F l0 l1 h = some (r, h')) : xx sc 69 0 [some (va_rf l0), some (.int l1)] [] h (fun v g => v = some (va_rf r) ∧ g = h') := by
  unfold b69_0 at e
  refine xo_iload_n rfl rfl ?_
  refine xo_aload_nQ (w := l0) rfl rfl ?_
  refine d_nn e (fun v1 g e1 => ?_)
  subst g
  replace e := e1
  clear e1
  refine d_geti rfl e (fun v2 e => ?_)
  refine d_static_i (av := [.int l1, .int v2]) (rest := []) rfl ⟨by decide, by decide, by decide⟩ rfl rfl (by simp [xv_fit, va_rf_cat, cat_int, cat_long, cat_ref, cat_null, show xt_mx 70 = 2 from rfl, show xt_lg 70 = [] from rfl]) (by simp [xv_room, va_rf_cat, cat_int, cat_long, cat_ref, cat_null]) (fun x0 h1 e1 => t70 e1) e (fun v3 h e => ?_)
  refine xo_pop rfl (by first | rfl | exact va_rf_cat _) ?_
  refine xo_aload_nQ (w := (some v1)) rfl rfl ?_
  refine xo_iload_n rfl rfl ?_
  refine d_virtual_a (av := [.int l1]) (rest := []) rfl ⟨by decide, by decide⟩ rfl rfl (by simp [xv_fit, va_rf_cat, cat_int, cat_long, cat_ref, cat_null, show xt_mx 72 = 2 from rfl, show xt_lg 72 = [] from rfl]) (by simp [xv_room, va_rf_cat, cat_int, cat_long, cat_ref, cat_null]) (fun x0 h1 e1 => t72 e1) e (fun v4 h e => ?_)
  exact d_aret rfl e
def m69 (F : Nat) (this : Nat) (p0 : Int32) : xm (Option Nat) := b69_0 F (some this) p0
theorem t69 {sc : Nat × (Nat → Int32)} {F : Nat} {this : Nat} {p0 : Int32} {h : xv_H} {r : Option Nat} {h' : xv_H} (e : m69 F this p0 h = some (r, h')) : xr sc 69 [.ref this, .int p0] h (fun v g => v = some (va_rf r) ∧ g = h') := by
  have e0 : xv_ent (xt_mx 69) [.ref this, .int p0] = [some (va_rf (some this)), some (.int p0)] := by simp [xv_ent, xv_sl, va_rf_cat, cat_int, cat_long, cat_ref, cat_null, va_rf_some, show xt_mx 69 = 2 from rfl]
  unfold xr
  rw [e0]
  exact t69_0 e
-- CellTree$Message.code()I
def b73_0 (F : Nat) (l0 : Option Nat) : xm Int32 := mb (nn l0) fun v1 => mb (gi 800 v1) fun v2 => mb (gr 801 v1) fun v3 => mb (nn v3) fun v4 => mb (gi 405 v4) fun v5 => mb (gi 802 v1) fun v6 => mr ((((10000 : Int32) * v2) + ((10 : Int32) * v5)) + v6)
theorem t73_0 {sc : Nat × (Nat → Int32)} {F : Nat} {r : Int32} {h' : xv_H} {l0 : Option Nat} {h : xv_H} (e : b73_0 F l0 h = some (r, h')) : xx sc 73 0 [some (va_rf l0)] [] h (fun v g => v = some (.int r) ∧ g = h') := by
  unfold b73_0 at e
  refine xo_sipushV (x := 10000) rfl (by decide) ?_
  refine xo_aload_nQ (w := l0) rfl rfl ?_
  refine d_nn e (fun v1 g e1 => ?_)
  subst g
  replace e := e1
  clear e1
  refine d_geti rfl e (fun v2 e => ?_)
  refine xo_imul rfl ?_
  refine xo_bipushV (x := 10) rfl (by decide) ?_
  refine xo_aload_nQ (w := (some v1)) rfl rfl ?_
  refine d_getr rfl e (fun v3 e => ?_)
  refine d_nn e (fun v4 g e1 => ?_)
  subst g
  replace e := e1
  clear e1
  refine d_geti rfl e (fun v5 e => ?_)
  refine xo_imul rfl ?_
  refine xo_iadd rfl ?_
  refine xo_aload_nQ (w := (some v1)) rfl rfl ?_
  refine d_geti rfl e (fun v6 e => ?_)
  refine xo_iadd rfl ?_
  exact d_iret rfl e
def m73 (F : Nat) (this : Nat) : xm Int32 := b73_0 F (some this)
theorem t73 {sc : Nat × (Nat → Int32)} {F : Nat} {this : Nat} {h : xv_H} {r : Int32} {h' : xv_H} (e : m73 F this h = some (r, h')) : xr sc 73 [.ref this] h (fun v g => v = some (.int r) ∧ g = h') := by
  have e0 : xv_ent (xt_mx 73) [.ref this] = [some (va_rf (some this))] := by simp [xv_ent, xv_sl, va_rf_cat, cat_int, cat_long, cat_ref, cat_null, va_rf_some, show xt_mx 73 = 1 from rfl]
  unfold xr
  rw [e0]
  exact t73_0 e
-- CellTree.message(I)I
def b67_26 (F : Nat) (s0 : Int32) : xm Int32 := mr s0
theorem t67_26 {sc : Nat × (Nat → Int32)} {F : Nat} {r : Int32} {h' : xv_H} {s0 : Int32} {d0 d1 : Option Value} {h : xv_H} (e : b67_26 F s0 h = some (r, h')) : xx sc 67 26 [d0, d1] [.int s0] h (fun v g => v = some (.int r) ∧ g = h') := by
  unfold b67_26 at e
  exact d_iret rfl e
def b67_25 (F : Nat) : xm Int32 := b67_26 F (-1 : Int32)
theorem t67_25 {sc : Nat × (Nat → Int32)} {F : Nat} {r : Int32} {h' : xv_H} {d0 d1 : Option Value} {h : xv_H} (e : b67_25 F h = some (r, h')) : xx sc 67 25 [d0, d1] [] h (fun v g => v = some (.int r) ∧ g = h') := by
  unfold b67_25 at e
  refine xo_iconstV (x := (-1)) rfl (by decide) ?_
  exact t67_26 e
def b67_8 (F : Nat) (l0 : Option Nat) (l1 : Int32) : xm Int32 := mb (nn l0) fun v1 => mb (gr 2 v1) fun v2 => mb (nn v2) fun v3 => mb (vc 10 v3) fun _ => mb (m69 F v3 l1) fun v4 => mb (ct 8 v4) fun _ => mb (nn v4) fun v5 => mb (vc 8 v5) fun _ => mb (m73 F v5) fun v6 => b67_26 F v6
theorem t67_8 {sc : Nat × (Nat → Int32)} {F : Nat} {r : Int32} {h' : xv_H} {l0 : Option Nat} {l1 : Int32} {h : xv_H} (e : b67_8 F l0 l1 h = some (r, h')) : xx sc 67 8 [some (va_rf l0), some (.int l1)] [] h (fun v g => v = some (.int r) ∧ g = h') := by
  unfold b67_8 at e
  refine xo_aload_nQ (w := l0) rfl rfl ?_
  refine d_nn e (fun v1 g e1 => ?_)
  subst g
  replace e := e1
  clear e1
  refine d_getr rfl e (fun v2 e => ?_)
  refine xo_iload_n rfl rfl ?_
  refine d_nn e (fun v3 g e1 => ?_)
  subst g
  replace e := e1
  clear e1
  refine d_virtual_a (av := [.int l1]) (rest := []) rfl ⟨by decide, by decide⟩ rfl rfl (by simp [xv_fit, va_rf_cat, cat_int, cat_long, cat_ref, cat_null, show xt_mx 69 = 2 from rfl, show xt_lg 69 = [] from rfl]) (by simp [xv_room, va_rf_cat, cat_int, cat_long, cat_ref, cat_null]) (fun x0 h1 e1 => t69 e1) e (fun v4 h e => ?_)
  refine d_cast (w := v4) rfl e (fun e => ?_)
  refine d_nn e (fun v5 g e1 => ?_)
  subst g
  replace e := e1
  clear e1
  refine d_virtual_i (av := []) (rest := []) rfl ⟨by decide, by decide⟩ rfl rfl (by simp [xv_fit, va_rf_cat, cat_int, cat_long, cat_ref, cat_null, show xt_mx 73 = 1 from rfl, show xt_lg 73 = [] from rfl]) (by simp [xv_room, va_rf_cat, cat_int, cat_long, cat_ref, cat_null]) (fun x0 h1 e1 => t73 e1) e (fun v6 h e => ?_)
  refine xo_goto rfl rfl ?_
  exact t67_26 e
def b67_0 (F : Nat) (l0 : Option Nat) (l1 : Int32) : xm Int32 := mb (nn l0) fun v1 => mb (vc 0 v1) fun _ => mb (m68 F v1 l1) fun v2 => if v2 = 0 then b67_25 F else b67_8 F (some v1) l1
theorem t67_0 {sc : Nat × (Nat → Int32)} {F : Nat} {r : Int32} {h' : xv_H} {l0 : Option Nat} {l1 : Int32} {h : xv_H} (e : b67_0 F l0 l1 h = some (r, h')) : xx sc 67 0 [some (va_rf l0), some (.int l1)] [] h (fun v g => v = some (.int r) ∧ g = h') := by
  unfold b67_0 at e
  refine xo_aload_nQ (w := l0) rfl rfl ?_
  refine xo_iload_n rfl rfl ?_
  refine d_nn e (fun v1 g e1 => ?_)
  subst g
  replace e := e1
  clear e1
  refine d_virtual_i (av := [.int l1]) (rest := []) rfl ⟨by decide, by decide⟩ rfl rfl (by simp [xv_fit, va_rf_cat, cat_int, cat_long, cat_ref, cat_null, show xt_mx 68 = 2 from rfl, show xt_lg 68 = [] from rfl]) (by simp [xv_room, va_rf_cat, cat_int, cat_long, cat_ref, cat_null]) (fun x0 h1 e1 => t68 e1) e (fun v2 h e => ?_)
  refine d_if_eq rfl rfl e (fun _ e => ?_) (fun _ e => ?_)
  · exact t67_25 e
  · exact t67_8 e
def m67 (F : Nat) (this : Nat) (p0 : Int32) : xm Int32 := b67_0 F (some this) p0
theorem t67 {sc : Nat × (Nat → Int32)} {F : Nat} {this : Nat} {p0 : Int32} {h : xv_H} {r : Int32} {h' : xv_H} (e : m67 F this p0 h = some (r, h')) : xr sc 67 [.ref this, .int p0] h (fun v g => v = some (.int r) ∧ g = h') := by
  have e0 : xv_ent (xt_mx 67) [.ref this, .int p0] = [some (va_rf (some this)), some (.int p0)] := by simp [xv_ent, xv_sl, va_rf_cat, cat_int, cat_long, cat_ref, cat_null, va_rf_some, show xt_mx 67 = 2 from rfl]
  unfold xr
  rw [e0]
  exact t67_0 e
-- java/util/ArrayList.fastRemove([Ljava/lang/Object;I)V
def b76_34 (F : Nat) (l0 : Option Nat) (l1 : Option Nat) (l3 : Int32) : xm Unit := mb (nn l0) fun v1 => mb (pi_ 1001 v1 l3) fun _ => mb (nn l1) fun v2 => mb (sr 109 v2 l3 none) fun _ => mr ()
theorem t76_34 {sc : Nat × (Nat → Int32)} {F : Nat} {r : Unit} {h' : xv_H} {l0 : Option Nat} {l1 : Option Nat} {l3 : Int32} {d2 : Option Value} {h : xv_H} (e : b76_34 F l0 l1 l3 h = some (r, h')) : xx sc 76 34 [some (va_rf l0), some (va_rf l1), d2, some (.int l3)] [] h (fun v g => v = none ∧ g = h') := by
  unfold b76_34 at e
  refine xo_aload_nQ (w := l1) rfl rfl ?_
  refine xo_aload_nQ (w := l0) rfl rfl ?_
  refine xo_iload_n rfl rfl ?_
  refine xo_dup_x1 rfl (by first | rfl | exact va_rf_cat _) (by first | rfl | exact va_rf_cat _) ?_
  refine d_nn e (fun v1 g e1 => ?_)
  subst g
  replace e := e1
  clear e1
  refine d_puti rfl e (fun h e => ?_)
  refine xo_nullV rfl ?_
  refine d_nn e (fun v2 g e1 => ?_)
  subst g
  replace e := e1
  clear e1
  refine d_aast (w := none) rfl e (fun h e => ?_)
  exact d_ret rfl e
def b76_22 (F : Nat) (l0 : Option Nat) (l1 : Option Nat) (l2 : Int32) (l3 : Int32) : xm Unit := mb (nn l1) fun v1 => mb (cy 109 (l3 - l2) l2 v1 (l2 + (1 : Int32)) v1) fun _ => b76_34 F l0 (some v1) l3
theorem t76_22 {sc : Nat × (Nat → Int32)} {F : Nat} {r : Unit} {h' : xv_H} {l0 : Option Nat} {l1 : Option Nat} {l2 : Int32} {l3 : Int32} {h : xv_H} (e : b76_22 F l0 l1 l2 l3 h = some (r, h')) : xx sc 76 22 [some (va_rf l0), some (va_rf l1), some (.int l2), some (.int l3)] [] h (fun v g => v = none ∧ g = h') := by
  unfold b76_22 at e
  refine xo_aload_nQ (w := l1) rfl rfl ?_
  refine xo_iload_n rfl rfl ?_
  refine xo_iconstV (x := 1) rfl (by decide) ?_
  refine xo_iadd rfl ?_
  refine xo_aload_nQ (w := l1) rfl rfl ?_
  refine xo_iload_n rfl rfl ?_
  refine xo_iload_n rfl rfl ?_
  refine xo_iload_n rfl rfl ?_
  refine xo_isub rfl ?_
  refine d_nn e (fun v1 g e1 => ?_)
  subst g
  replace e := e1
  clear e1
  refine d_copy rfl (by simp [xv_room, va_rf_cat, cat_int, cat_long, cat_ref, cat_null]) e (fun h e => ?_)
  exact t76_34 e
def b76_0 (F : Nat) (l0 : Option Nat) (l1 : Option Nat) (l2 : Int32) : xm Unit := mb (nn l0) fun v1 => mb (gi 1002 v1) fun v2 => mb (pi_ 1002 v1 (v2 + (1 : Int32))) fun _ => mb (gi 1001 v1) fun v3 => if (v3 - (1 : Int32)) ≤ l2 then b76_34 F (some v1) l1 (v3 - (1 : Int32)) else b76_22 F (some v1) l1 l2 (v3 - (1 : Int32))
theorem t76_0 {sc : Nat × (Nat → Int32)} {F : Nat} {r : Unit} {h' : xv_H} {l0 : Option Nat} {l1 : Option Nat} {l2 : Int32} {d3 : Option Value} {h : xv_H} (e : b76_0 F l0 l1 l2 h = some (r, h')) : xx sc 76 0 [some (va_rf l0), some (va_rf l1), some (.int l2), d3] [] h (fun v g => v = none ∧ g = h') := by
  unfold b76_0 at e
  refine xo_aload_nQ (w := l0) rfl rfl ?_
  refine xo_dup rfl (by first | rfl | exact va_rf_cat _) ?_
  refine d_nn e (fun v1 g e1 => ?_)
  subst g
  replace e := e1
  clear e1
  refine d_geti rfl e (fun v2 e => ?_)
  refine xo_iconstV (x := 1) rfl (by decide) ?_
  refine xo_iadd rfl ?_
  refine d_puti rfl e (fun h e => ?_)
  refine xo_aload_nQ (w := (some v1)) rfl rfl ?_
  refine d_geti rfl e (fun v3 e => ?_)
  refine xo_iconstV (x := 1) rfl (by decide) ?_
  refine xo_isub rfl ?_
  refine xo_dup rfl (by first | rfl | exact va_rf_cat _) ?_
  refine xo_istore_n rfl (Nat.le_of_ble_eq_true rfl) rfl ?_
  refine xo_iload_n rfl rfl ?_
  refine d_icmp_le rfl rfl e (fun _ e => ?_) (fun _ e => ?_)
  · exact t76_34 e
  · exact t76_22 e
def m76 (F : Nat) (this : Nat) (p0 : Option Nat) (p1 : Int32) : xm Unit := b76_0 F (some this) p0 p1
theorem t76 {sc : Nat × (Nat → Int32)} {F : Nat} {this : Nat} {p0 : Option Nat} {p1 : Int32} {h : xv_H} {r : Unit} {h' : xv_H} (e : m76 F this p0 p1 h = some (r, h')) : xr sc 76 [.ref this, va_rf p0, .int p1] h (fun v g => v = none ∧ g = h') := by
  have e0 : xv_ent (xt_mx 76) [.ref this, va_rf p0, .int p1] = [some (va_rf (some this)), some (va_rf p0), some (.int p1), none] := by simp [xv_ent, xv_sl, va_rf_cat, cat_int, cat_long, cat_ref, cat_null, va_rf_some, show xt_mx 76 = 4 from rfl]
  unfold xr
  rw [e0]
  exact t76_0 e
-- java/util/ArrayList.remove(I)Ljava/lang/Object;
def b75_0 (F : Nat) (l0 : Option Nat) (l1 : Int32) : xm (Option Nat) := mb (nn l0) fun v1 => mb (gi 1001 v1) fun v2 => mb (m70 F l1 v2) fun v3 => mb (gr 1000 v1) fun v4 => mb (nn v4) fun v5 => mb (lr 109 v5 l1) fun v6 => mb (vc 10 v1) fun _ => mb (m76 F v1 (some v5) l1) fun _ => mr v6
theorem t75_0 {sc : Nat × (Nat → Int32)} {F : Nat} {r : Option Nat} {h' : xv_H} {l0 : Option Nat} {l1 : Int32} {d2 d3 : Option Value} {h : xv_H} (e : b75_0 F l0 l1 h = some (r, h')) : xx sc 75 0 [some (va_rf l0), some (.int l1), d2, d3] [] h (fun v g => v = some (va_rf r) ∧ g = h') := by
  unfold b75_0 at e
  refine xo_iload_n rfl rfl ?_
  refine xo_aload_nQ (w := l0) rfl rfl ?_
  refine d_nn e (fun v1 g e1 => ?_)
  subst g
  replace e := e1
  clear e1
  refine d_geti rfl e (fun v2 e => ?_)
  refine d_static_i (av := [.int l1, .int v2]) (rest := []) rfl ⟨by decide, by decide, by decide⟩ rfl rfl (by simp [xv_fit, va_rf_cat, cat_int, cat_long, cat_ref, cat_null, show xt_mx 70 = 2 from rfl, show xt_lg 70 = [] from rfl]) (by simp [xv_room, va_rf_cat, cat_int, cat_long, cat_ref, cat_null]) (fun x0 h1 e1 => t70 e1) e (fun v3 h e => ?_)
  refine xo_pop rfl (by first | rfl | exact va_rf_cat _) ?_
  refine xo_aload_nQ (w := (some v1)) rfl rfl ?_
  refine d_getr rfl e (fun v4 e => ?_)
  refine xo_astore_nQ (w := v4) rfl (Nat.le_of_ble_eq_true rfl) rfl ?_
  refine xo_aload_nQ (w := v4) rfl rfl ?_
  refine xo_iload_n rfl rfl ?_
  refine d_nn e (fun v5 g e1 => ?_)
  subst g
  replace e := e1
  clear e1
  refine d_aald rfl e (fun v6 e => ?_)
  refine xo_astore_nQ (w := v6) rfl (Nat.le_of_ble_eq_true rfl) rfl ?_
  refine xo_aload_nQ (w := (some v1)) rfl rfl ?_
  refine xo_aload_nQ (w := (some v5)) rfl rfl ?_
  refine xo_iload_n rfl rfl ?_
  refine d_virtual_v (av := [va_rf (some v5), .int l1]) (rest := []) rfl ⟨by decide, by decide⟩ rfl rfl (by simp [xv_fit, va_rf_cat, cat_int, cat_long, cat_ref, cat_null, show xt_mx 76 = 4 from rfl, show xt_lg 76 = [] from rfl]) (by simp [xv_room, va_rf_cat, cat_int, cat_long, cat_ref, cat_null]) (fun x0 h1 e1 => t76 e1) e (fun _ h e => ?_)
  refine xo_aload_nQ (w := v6) rfl rfl ?_
  exact d_aret rfl e
def m75 (F : Nat) (this : Nat) (p0 : Int32) : xm (Option Nat) := b75_0 F (some this) p0
theorem t75 {sc : Nat × (Nat → Int32)} {F : Nat} {this : Nat} {p0 : Int32} {h : xv_H} {r : Option Nat} {h' : xv_H} (e : m75 F this p0 h = some (r, h')) : xr sc 75 [.ref this, .int p0] h (fun v g => v = some (va_rf r) ∧ g = h') := by
  have e0 : xv_ent (xt_mx 75) [.ref this, .int p0] = [some (va_rf (some this)), some (.int p0), none, none] := by simp [xv_ent, xv_sl, va_rf_cat, cat_int, cat_long, cat_ref, cat_null, va_rf_some, show xt_mx 75 = 4 from rfl]
  unfold xr
  rw [e0]
  exact t75_0 e
-- CellTree$Transaction.hasSeveralParticipants()Z
def b79_37 (F : Nat) (s0 : Int32) : xm Int32 := mb (bz s0) fun _ => mr s0
theorem t79_37 {sc : Nat × (Nat → Int32)} {F : Nat} {r : Int32} {h' : xv_H} {s0 : Int32} {d0 d1 d2 : Option Value} {h : xv_H} (e : b79_37 F s0 h = some (r, h')) : xx sc 79 37 [d0, d1, d2] [.int s0] h (fun v g => v = some (.int r) ∧ g = h') := by
  unfold b79_37 at e
  exact d_zret rfl e
def b79_36 (F : Nat) : xm Int32 := b79_37 F (0 : Int32)
theorem t79_36 {sc : Nat × (Nat → Int32)} {F : Nat} {r : Int32} {h' : xv_H} {d0 d1 d2 : Option Value} {h : xv_H} (e : b79_36 F h = some (r, h')) : xx sc 79 36 [d0, d1, d2] [] h (fun v g => v = some (.int r) ∧ g = h') := by
  unfold b79_36 at e
  refine xo_iconstV (x := 0) rfl (by decide) ?_
  exact t79_37 e
def b79_32 (F : Nat) : xm Int32 := b79_37 F (1 : Int32)
theorem t79_32 {sc : Nat × (Nat → Int32)} {F : Nat} {r : Int32} {h' : xv_H} {d0 d1 d2 : Option Value} {h : xv_H} (e : b79_32 F h = some (r, h')) : xx sc 79 32 [d0, d1, d2] [] h (fun v g => v = some (.int r) ∧ g = h') := by
  unfold b79_32 at e
  refine xo_iconstV (x := 1) rfl (by decide) ?_
  refine xo_goto rfl rfl ?_
  exact t79_37 e
def b79_27 (F : Nat) (l1 : Int32) : xm Int32 := if l1 ≤ (1 : Int32) then b79_36 F else b79_32 F
theorem t79_27 {sc : Nat × (Nat → Int32)} {F : Nat} {r : Int32} {h' : xv_H} {l1 : Int32} {d0 d2 : Option Value} {h : xv_H} (e : b79_27 F l1 h = some (r, h')) : xx sc 79 27 [d0, some (.int l1), d2] [] h (fun v g => v = some (.int r) ∧ g = h') := by
  unfold b79_27 at e
  refine xo_iload_n rfl rfl ?_
  refine xo_iconstV (x := 1) rfl (by decide) ?_
  refine d_icmp_le rfl rfl e (fun _ e => ?_) (fun _ e => ?_)
  · exact t79_36 e
  · exact t79_32 e
def b79_21 (k4 : Option Nat → Int32 → Int32 → xm Int32) (F : Nat) (l0 : Option Nat) (l1 : Int32) (l2 : Int32) : xm Int32 := k4 l0 l1 (l2 + (1 : Int32))
theorem t79_21 {sc : Nat × (Nat → Int32)} {F : Nat} {r : Int32} {h' : xv_H} {k4 : Option Nat → Int32 → Int32 → xm Int32} (hk4 : ∀ (l0 : Option Nat) (l1 : Int32) (l2 : Int32) (h : xv_H), k4 l0 l1 l2 h = some (r, h') → xx sc 79 4 [some (va_rf l0), some (.int l1), some (.int l2)] [] h (fun v g => v = some (.int r) ∧ g = h')) {l0 : Option Nat} {l1 : Int32} {l2 : Int32} {h : xv_H} (e : b79_21 k4 F l0 l1 l2 h = some (r, h')) : xx sc 79 21 [some (va_rf l0), some (.int l1), some (.int l2)] [] h (fun v g => v = some (.int r) ∧ g = h') := by
  unfold b79_21 at e
  refine xo_iincV (z := 1) rfl (by decide) rfl (Nat.le_of_ble_eq_true rfl) rfl ?_
  refine xo_goto rfl rfl ?_
  exact hk4 _ _ _ _ e
def b79_18 (k4 : Option Nat → Int32 → Int32 → xm Int32) (F : Nat) (l0 : Option Nat) (l1 : Int32) (l2 : Int32) : xm Int32 := b79_21 k4 F l0 (l1 + (1 : Int32)) l2
theorem t79_18 {sc : Nat × (Nat → Int32)} {F : Nat} {r : Int32} {h' : xv_H} {k4 : Option Nat → Int32 → Int32 → xm Int32} (hk4 : ∀ (l0 : Option Nat) (l1 : Int32) (l2 : Int32) (h : xv_H), k4 l0 l1 l2 h = some (r, h') → xx sc 79 4 [some (va_rf l0), some (.int l1), some (.int l2)] [] h (fun v g => v = some (.int r) ∧ g = h')) {l0 : Option Nat} {l1 : Int32} {l2 : Int32} {h : xv_H} (e : b79_18 k4 F l0 l1 l2 h = some (r, h')) : xx sc 79 18 [some (va_rf l0), some (.int l1), some (.int l2)] [] h (fun v g => v = some (.int r) ∧ g = h') := by
  unfold b79_18 at e
  refine xo_iincV (z := 1) rfl (by decide) rfl (Nat.le_of_ble_eq_true rfl) rfl ?_
  exact t79_21 hk4 e
def b79_9 (k4 : Option Nat → Int32 → Int32 → xm Int32) (F : Nat) (l0 : Option Nat) (l1 : Int32) (l2 : Int32) : xm Int32 := mb (nn l0) fun v1 => mb (gr 402 v1) fun v2 => mb (nn v2) fun v3 => mb (lb v3 l2) fun v4 => if v4 = 0 then b79_21 k4 F (some v1) l1 l2 else b79_18 k4 F (some v1) l1 l2
theorem t79_9 {sc : Nat × (Nat → Int32)} {F : Nat} {r : Int32} {h' : xv_H} {k4 : Option Nat → Int32 → Int32 → xm Int32} (hk4 : ∀ (l0 : Option Nat) (l1 : Int32) (l2 : Int32) (h : xv_H), k4 l0 l1 l2 h = some (r, h') → xx sc 79 4 [some (va_rf l0), some (.int l1), some (.int l2)] [] h (fun v g => v = some (.int r) ∧ g = h')) {l0 : Option Nat} {l1 : Int32} {l2 : Int32} {h : xv_H} (e : b79_9 k4 F l0 l1 l2 h = some (r, h')) : xx sc 79 9 [some (va_rf l0), some (.int l1), some (.int l2)] [] h (fun v g => v = some (.int r) ∧ g = h') := by
  unfold b79_9 at e
  refine xo_aload_nQ (w := l0) rfl rfl ?_
  refine d_nn e (fun v1 g e1 => ?_)
  subst g
  replace e := e1
  clear e1
  refine d_getr rfl e (fun v2 e => ?_)
  refine xo_iload_n rfl rfl ?_
  refine d_nn e (fun v3 g e1 => ?_)
  subst g
  replace e := e1
  clear e1
  refine d_bald rfl e (fun v4 e => ?_)
  refine d_if_eq rfl rfl e (fun _ e => ?_) (fun _ e => ?_)
  · exact t79_21 hk4 e
  · exact t79_18 hk4 e
def b79_4 (F : Nat) : Nat → Option Nat → Int32 → Int32 → xm Int32
  | 0, _, _, _ => fun _ => none
  | f + 1, l0, l1, l2 => if (3 : Int32) ≤ l2 then b79_27 F l1 else b79_9 (b79_4 F f) F l0 l1 l2
theorem t79_4 {sc : Nat × (Nat → Int32)} {F : Nat} {r : Int32} {h' : xv_H} : ∀ (f : Nat) (l0 : Option Nat) (l1 : Int32) (l2 : Int32) (h : xv_H), b79_4 F f l0 l1 l2 h = some (r, h') → xx sc 79 4 [some (va_rf l0), some (.int l1), some (.int l2)] [] h (fun v g => v = some (.int r) ∧ g = h') := by
  intro f
  induction f with
  | zero => intro l0 l1 l2 h e; cases e
  | succ f ih =>
    intro l0 l1 l2 h e
    unfold b79_4 at e
    refine xo_iload_n rfl rfl ?_
    refine xo_iconstV (x := 3) rfl (by decide) ?_
    refine d_icmp_ge rfl rfl e (fun _ e => ?_) (fun _ e => ?_)
    · exact t79_27 e
    · exact t79_9 (fun a0 a1 a2 h e => ih a0 a1 a2 h e) e
def b79_0 (F : Nat) (l0 : Option Nat) : xm Int32 := b79_4 F F l0 (0 : Int32) (0 : Int32)
theorem t79_0 {sc : Nat × (Nat → Int32)} {F : Nat} {r : Int32} {h' : xv_H} {l0 : Option Nat} {d1 d2 : Option Value} {h : xv_H} (e : b79_0 F l0 h = some (r, h')) : xx sc 79 0 [some (va_rf l0), d1, d2] [] h (fun v g => v = some (.int r) ∧ g = h') := by
  unfold b79_0 at e
  refine xo_iconstV (x := 0) rfl (by decide) ?_
  refine xo_istore_n rfl (Nat.le_of_ble_eq_true rfl) rfl ?_
  refine xo_iconstV (x := 0) rfl (by decide) ?_
  refine xo_istore_n rfl (Nat.le_of_ble_eq_true rfl) rfl ?_
  exact t79_4 F _ _ _ _ e
def m79 (F : Nat) (this : Nat) : xm Int32 := b79_0 F (some this)
theorem t79 {sc : Nat × (Nat → Int32)} {F : Nat} {this : Nat} {h : xv_H} {r : Int32} {h' : xv_H} (e : m79 F this h = some (r, h')) : xr sc 79 [.ref this] h (fun v g => v = some (.int r) ∧ g = h') := by
  have e0 : xv_ent (xt_mx 79) [.ref this] = [some (va_rf (some this)), none, none] := by simp [xv_ent, xv_sl, va_rf_cat, cat_int, cat_long, cat_ref, cat_null, va_rf_some, show xt_mx 79 = 3 from rfl]
  unfold xr
  rw [e0]
  exact t79_0 e
-- CellTree.sendVerdict(ILCellTree$Transaction;I)V
def b78_48 (F : Nat) : xm Unit := mr ()
theorem t78_48 {sc : Nat × (Nat → Int32)} {F : Nat} {r : Unit} {h' : xv_H} {d0 d1 d2 d3 d4 : Option Value} {h : xv_H} (e : b78_48 F h = some (r, h')) : xx sc 78 48 [d0, d1, d2, d3, d4] [] h (fun v g => v = none ∧ g = h') := by
  unfold b78_48 at e
  exact d_ret rfl e
def b78_42 (k11 : Option Nat → Int32 → Option Nat → Int32 → Int32 → xm Unit) (F : Nat) (l0 : Option Nat) (l1 : Int32) (l2 : Option Nat) (l3 : Int32) (l4 : Int32) : xm Unit := k11 l0 l1 l2 l3 (l4 + (1 : Int32))
theorem t78_42 {sc : Nat × (Nat → Int32)} {F : Nat} {r : Unit} {h' : xv_H} {k11 : Option Nat → Int32 → Option Nat → Int32 → Int32 → xm Unit} (hk11 : ∀ (l0 : Option Nat) (l1 : Int32) (l2 : Option Nat) (l3 : Int32) (l4 : Int32) (h : xv_H), k11 l0 l1 l2 l3 l4 h = some (r, h') → xx sc 78 11 [some (va_rf l0), some (.int l1), some (va_rf l2), some (.int l3), some (.int l4)] [] h (fun v g => v = none ∧ g = h')) {l0 : Option Nat} {l1 : Int32} {l2 : Option Nat} {l3 : Int32} {l4 : Int32} {h : xv_H} (e : b78_42 k11 F l0 l1 l2 l3 l4 h = some (r, h')) : xx sc 78 42 [some (va_rf l0), some (.int l1), some (va_rf l2), some (.int l3), some (.int l4)] [] h (fun v g => v = none ∧ g = h') := by
  unfold b78_42 at e
  refine xo_iincV (z := 1) rfl (by decide) rfl (Nat.le_of_ble_eq_true rfl) rfl ?_
  refine xo_goto rfl rfl ?_
  exact hk11 _ _ _ _ _ _ e
def b78_33 (k11 : Option Nat → Int32 → Option Nat → Int32 → Int32 → xm Unit) (F : Nat) (l0 : Option Nat) (l1 : Int32) (l2 : Option Nat) (l3 : Int32) (l4 : Int32) : xm Unit := mb (nn l0) fun v1 => mb (vc 0 v1) fun _ => mb (m52 F v1 l1 l2 l4 none) fun _ => b78_42 k11 F (some v1) l1 l2 l3 l4
theorem t78_33 {sc : Nat × (Nat → Int32)} {F : Nat} {r : Unit} {h' : xv_H} {k11 : Option Nat → Int32 → Option Nat → Int32 → Int32 → xm Unit} (hk11 : ∀ (l0 : Option Nat) (l1 : Int32) (l2 : Option Nat) (l3 : Int32) (l4 : Int32) (h : xv_H), k11 l0 l1 l2 l3 l4 h = some (r, h') → xx sc 78 11 [some (va_rf l0), some (.int l1), some (va_rf l2), some (.int l3), some (.int l4)] [] h (fun v g => v = none ∧ g = h')) {l0 : Option Nat} {l1 : Int32} {l2 : Option Nat} {l3 : Int32} {l4 : Int32} {h : xv_H} (e : b78_33 k11 F l0 l1 l2 l3 l4 h = some (r, h')) : xx sc 78 33 [some (va_rf l0), some (.int l1), some (va_rf l2), some (.int l3), some (.int l4)] [] h (fun v g => v = none ∧ g = h') := by
  unfold b78_33 at e
  refine xo_aload_nQ (w := l0) rfl rfl ?_
  refine xo_iload_n rfl rfl ?_
  refine xo_aload_nQ (w := l2) rfl rfl ?_
  refine xo_iload rfl rfl ?_
  refine xo_nullV rfl ?_
  refine d_nn e (fun v1 g e1 => ?_)
  subst g
  replace e := e1
  clear e1
  refine d_virtual_v (av := [.int l1, va_rf l2, .int l4, va_rf none]) (rest := []) rfl ⟨by decide, by decide⟩ rfl rfl (by simp [xv_fit, va_rf_cat, cat_int, cat_long, cat_ref, cat_null, show xt_mx 52 = 5 from rfl, show xt_lg 52 = [] from rfl]) (by simp [xv_room, va_rf_cat, cat_int, cat_long, cat_ref, cat_null]) (fun x0 h1 e1 => t52 e1) e (fun _ h e => ?_)
  exact t78_42 hk11 e
def b78_27 (k11 : Option Nat → Int32 → Option Nat → Int32 → Int32 → xm Unit) (F : Nat) (l0 : Option Nat) (l1 : Int32) (l2 : Option Nat) (l3 : Int32) (l4 : Int32) : xm Unit := if l4 = l3 then b78_42 k11 F l0 l1 l2 l3 l4 else b78_33 k11 F l0 l1 l2 l3 l4
theorem t78_27 {sc : Nat × (Nat → Int32)} {F : Nat} {r : Unit} {h' : xv_H} {k11 : Option Nat → Int32 → Option Nat → Int32 → Int32 → xm Unit} (hk11 : ∀ (l0 : Option Nat) (l1 : Int32) (l2 : Option Nat) (l3 : Int32) (l4 : Int32) (h : xv_H), k11 l0 l1 l2 l3 l4 h = some (r, h') → xx sc 78 11 [some (va_rf l0), some (.int l1), some (va_rf l2), some (.int l3), some (.int l4)] [] h (fun v g => v = none ∧ g = h')) {l0 : Option Nat} {l1 : Int32} {l2 : Option Nat} {l3 : Int32} {l4 : Int32} {h : xv_H} (e : b78_27 k11 F l0 l1 l2 l3 l4 h = some (r, h')) : xx sc 78 27 [some (va_rf l0), some (.int l1), some (va_rf l2), some (.int l3), some (.int l4)] [] h (fun v g => v = none ∧ g = h') := by
  unfold b78_27 at e
  refine xo_iload rfl rfl ?_
  refine xo_iload_n rfl rfl ?_
  refine d_icmp_eq rfl rfl e (fun _ e => ?_) (fun _ e => ?_)
  · exact t78_42 hk11 e
  · exact t78_33 hk11 e
def b78_17 (k11 : Option Nat → Int32 → Option Nat → Int32 → Int32 → xm Unit) (F : Nat) (l0 : Option Nat) (l1 : Int32) (l2 : Option Nat) (l3 : Int32) (l4 : Int32) : xm Unit := mb (nn l2) fun v1 => mb (gr 402 v1) fun v2 => mb (nn v2) fun v3 => mb (lb v3 l4) fun v4 => if v4 = 0 then b78_42 k11 F l0 l1 (some v1) l3 l4 else b78_27 k11 F l0 l1 (some v1) l3 l4
theorem t78_17 {sc : Nat × (Nat → Int32)} {F : Nat} {r : Unit} {h' : xv_H} {k11 : Option Nat → Int32 → Option Nat → Int32 → Int32 → xm Unit} (hk11 : ∀ (l0 : Option Nat) (l1 : Int32) (l2 : Option Nat) (l3 : Int32) (l4 : Int32) (h : xv_H), k11 l0 l1 l2 l3 l4 h = some (r, h') → xx sc 78 11 [some (va_rf l0), some (.int l1), some (va_rf l2), some (.int l3), some (.int l4)] [] h (fun v g => v = none ∧ g = h')) {l0 : Option Nat} {l1 : Int32} {l2 : Option Nat} {l3 : Int32} {l4 : Int32} {h : xv_H} (e : b78_17 k11 F l0 l1 l2 l3 l4 h = some (r, h')) : xx sc 78 17 [some (va_rf l0), some (.int l1), some (va_rf l2), some (.int l3), some (.int l4)] [] h (fun v g => v = none ∧ g = h') := by
  unfold b78_17 at e
  refine xo_aload_nQ (w := l2) rfl rfl ?_
  refine d_nn e (fun v1 g e1 => ?_)
  subst g
  replace e := e1
  clear e1
  refine d_getr rfl e (fun v2 e => ?_)
  refine xo_iload rfl rfl ?_
  refine d_nn e (fun v3 g e1 => ?_)
  subst g
  replace e := e1
  clear e1
  refine d_bald rfl e (fun v4 e => ?_)
  refine d_if_eq rfl rfl e (fun _ e => ?_) (fun _ e => ?_)
  · exact t78_42 hk11 e
  · exact t78_27 hk11 e
def b78_11 (F : Nat) : Nat → Option Nat → Int32 → Option Nat → Int32 → Int32 → xm Unit
  | 0, _, _, _, _, _ => fun _ => none
  | f + 1, l0, l1, l2, l3, l4 => if (3 : Int32) ≤ l4 then b78_48 F else b78_17 (b78_11 F f) F l0 l1 l2 l3 l4
theorem t78_11 {sc : Nat × (Nat → Int32)} {F : Nat} {r : Unit} {h' : xv_H} : ∀ (f : Nat) (l0 : Option Nat) (l1 : Int32) (l2 : Option Nat) (l3 : Int32) (l4 : Int32) (h : xv_H), b78_11 F f l0 l1 l2 l3 l4 h = some (r, h') → xx sc 78 11 [some (va_rf l0), some (.int l1), some (va_rf l2), some (.int l3), some (.int l4)] [] h (fun v g => v = none ∧ g = h') := by
  intro f
  induction f with
  | zero => intro l0 l1 l2 l3 l4 h e; cases e
  | succ f ih =>
    intro l0 l1 l2 l3 l4 h e
    unfold b78_11 at e
    refine xo_iload rfl rfl ?_
    refine xo_iconstV (x := 3) rfl (by decide) ?_
    refine d_icmp_ge rfl rfl e (fun _ e => ?_) (fun _ e => ?_)
    · exact t78_48 e
    · exact t78_17 (fun a0 a1 a2 a3 a4 h e => ih a0 a1 a2 a3 a4 h e) e
def b78_8 (F : Nat) (l0 : Option Nat) (l1 : Int32) (l2 : Option Nat) (l3 : Int32) : xm Unit := b78_11 F F l0 l1 l2 l3 (0 : Int32)
theorem t78_8 {sc : Nat × (Nat → Int32)} {F : Nat} {r : Unit} {h' : xv_H} {l0 : Option Nat} {l1 : Int32} {l2 : Option Nat} {l3 : Int32} {d4 : Option Value} {h : xv_H} (e : b78_8 F l0 l1 l2 l3 h = some (r, h')) : xx sc 78 8 [some (va_rf l0), some (.int l1), some (va_rf l2), some (.int l3), d4] [] h (fun v g => v = none ∧ g = h') := by
  unfold b78_8 at e
  refine xo_iconstV (x := 0) rfl (by decide) ?_
  refine xo_istore rfl (Nat.le_of_ble_eq_true rfl) rfl ?_
  exact t78_11 F _ _ _ _ _ _ e
def b78_7 (F : Nat) : xm Unit := mr ()
theorem t78_7 {sc : Nat × (Nat → Int32)} {F : Nat} {r : Unit} {h' : xv_H} {d0 d1 d2 d3 d4 : Option Value} {h : xv_H} (e : b78_7 F h = some (r, h')) : xx sc 78 7 [d0, d1, d2, d3, d4] [] h (fun v g => v = none ∧ g = h') := by
  unfold b78_7 at e
  exact d_ret rfl e
def b78_0 (F : Nat) (l0 : Option Nat) (l1 : Int32) (l2 : Option Nat) (l3 : Int32) : xm Unit := mb (nn l2) fun v1 => mb (vc 4 v1) fun _ => mb (m79 F v1) fun v2 => if ¬ v2 = 0 then b78_8 F l0 l1 (some v1) l3 else b78_7 F
theorem t78_0 {sc : Nat × (Nat → Int32)} {F : Nat} {r : Unit} {h' : xv_H} {l0 : Option Nat} {l1 : Int32} {l2 : Option Nat} {l3 : Int32} {d4 : Option Value} {h : xv_H} (e : b78_0 F l0 l1 l2 l3 h = some (r, h')) : xx sc 78 0 [some (va_rf l0), some (.int l1), some (va_rf l2), some (.int l3), d4] [] h (fun v g => v = none ∧ g = h') := by
  unfold b78_0 at e
  refine xo_aload_nQ (w := l2) rfl rfl ?_
  refine d_nn e (fun v1 g e1 => ?_)
  subst g
  replace e := e1
  clear e1
  refine d_virtual_i (av := []) (rest := []) rfl ⟨by decide, by decide⟩ rfl rfl (by simp [xv_fit, va_rf_cat, cat_int, cat_long, cat_ref, cat_null, show xt_mx 79 = 3 from rfl, show xt_lg 79 = [] from rfl]) (by simp [xv_room, va_rf_cat, cat_int, cat_long, cat_ref, cat_null]) (fun x0 h1 e1 => t79 e1) e (fun v2 h e => ?_)
  refine d_if_ne rfl rfl e (fun _ e => ?_) (fun _ e => ?_)
  · exact t78_8 e
  · exact t78_7 e
def m78 (F : Nat) (this : Nat) (p0 : Int32) (p1 : Option Nat) (p2 : Int32) : xm Unit := b78_0 F (some this) p0 p1 p2
theorem t78 {sc : Nat × (Nat → Int32)} {F : Nat} {this : Nat} {p0 : Int32} {p1 : Option Nat} {p2 : Int32} {h : xv_H} {r : Unit} {h' : xv_H} (e : m78 F this p0 p1 p2 h = some (r, h')) : xr sc 78 [.ref this, .int p0, va_rf p1, .int p2] h (fun v g => v = none ∧ g = h') := by
  have e0 : xv_ent (xt_mx 78) [.ref this, .int p0, va_rf p1, .int p2] = [some (va_rf (some this)), some (.int p0), some (va_rf p1), some (.int p2), none] := by simp [xv_ent, xv_sl, va_rf_cat, cat_int, cat_long, cat_ref, cat_null, va_rf_some, show xt_mx 78 = 5 from rfl]
  unfold xr
  rw [e0]
  exact t78_0 e
-- CellTree$Client.forgetPath()V
def b81_28 (F : Nat) : xm Unit := mr ()
theorem t81_28 {sc : Nat × (Nat → Int32)} {F : Nat} {r : Unit} {h' : xv_H} {d0 d1 : Option Value} {h : xv_H} (e : b81_28 F h = some (r, h')) : xx sc 81 28 [d0, d1] [] h (fun v g => v = none ∧ g = h') := by
  unfold b81_28 at e
  exact d_ret rfl e
def b81_10 (k2 : Option Nat → Int32 → xm Unit) (F : Nat) (l0 : Option Nat) (l1 : Int32) : xm Unit := mb (nn l0) fun v1 => mb (gr 101 v1) fun v2 => mb (gr 103 v1) fun v3 => mb (nn v3) fun v4 => mb (li v4 l1) fun v5 => mb (nn v2) fun v6 => mb (sr 108 v6 v5 none) fun _ => k2 (some v1) (l1 + (1 : Int32))
theorem t81_10 {sc : Nat × (Nat → Int32)} {F : Nat} {r : Unit} {h' : xv_H} {k2 : Option Nat → Int32 → xm Unit} (hk2 : ∀ (l0 : Option Nat) (l1 : Int32) (h : xv_H), k2 l0 l1 h = some (r, h') → xx sc 81 2 [some (va_rf l0), some (.int l1)] [] h (fun v g => v = none ∧ g = h')) {l0 : Option Nat} {l1 : Int32} {h : xv_H} (e : b81_10 k2 F l0 l1 h = some (r, h')) : xx sc 81 10 [some (va_rf l0), some (.int l1)] [] h (fun v g => v = none ∧ g = h') := by
  unfold b81_10 at e
  refine xo_aload_nQ (w := l0) rfl rfl ?_
  refine d_nn e (fun v1 g e1 => ?_)
  subst g
  replace e := e1
  clear e1
  refine d_getr rfl e (fun v2 e => ?_)
  refine xo_aload_nQ (w := (some v1)) rfl rfl ?_
  refine d_getr rfl e (fun v3 e => ?_)
  refine xo_iload_n rfl rfl ?_
  refine d_nn e (fun v4 g e1 => ?_)
  subst g
  replace e := e1
  clear e1
  refine d_iald rfl e (fun v5 e => ?_)
  refine xo_nullV rfl ?_
  refine d_nn e (fun v6 g e1 => ?_)
  subst g
  replace e := e1
  clear e1
  refine d_aast (w := none) rfl e (fun h e => ?_)
  refine xo_iincV (z := 1) rfl (by decide) rfl (Nat.le_of_ble_eq_true rfl) rfl ?_
  refine xo_goto rfl rfl ?_
  exact hk2 _ _ _ e
def b81_2 (F : Nat) : Nat → Option Nat → Int32 → xm Unit
  | 0, _, _ => fun _ => none
  | f + 1, l0, l1 => mb (nn l0) fun v1 => mb (gi 104 v1) fun v2 => if v2 ≤ l1 then b81_28 F else b81_10 (b81_2 F f) F (some v1) l1
theorem t81_2 {sc : Nat × (Nat → Int32)} {F : Nat} {r : Unit} {h' : xv_H} : ∀ (f : Nat) (l0 : Option Nat) (l1 : Int32) (h : xv_H), b81_2 F f l0 l1 h = some (r, h') → xx sc 81 2 [some (va_rf l0), some (.int l1)] [] h (fun v g => v = none ∧ g = h') := by
  intro f
  induction f with
  | zero => intro l0 l1 h e; cases e
  | succ f ih =>
    intro l0 l1 h e
    unfold b81_2 at e
    refine xo_iload_n rfl rfl ?_
    refine xo_aload_nQ (w := l0) rfl rfl ?_
    refine d_nn e (fun v1 g e1 => ?_)
    subst g
    replace e := e1
    clear e1
    refine d_geti rfl e (fun v2 e => ?_)
    refine d_icmp_ge rfl rfl e (fun _ e => ?_) (fun _ e => ?_)
    · exact t81_28 e
    · exact t81_10 (fun a0 a1 h e => ih a0 a1 h e) e
def b81_0 (F : Nat) (l0 : Option Nat) : xm Unit := b81_2 F F l0 (0 : Int32)
theorem t81_0 {sc : Nat × (Nat → Int32)} {F : Nat} {r : Unit} {h' : xv_H} {l0 : Option Nat} {d1 : Option Value} {h : xv_H} (e : b81_0 F l0 h = some (r, h')) : xx sc 81 0 [some (va_rf l0), d1] [] h (fun v g => v = none ∧ g = h') := by
  unfold b81_0 at e
  refine xo_iconstV (x := 0) rfl (by decide) ?_
  refine xo_istore_n rfl (Nat.le_of_ble_eq_true rfl) rfl ?_
  exact t81_2 F _ _ _ e
def m81 (F : Nat) (this : Nat) : xm Unit := b81_0 F (some this)
theorem t81 {sc : Nat × (Nat → Int32)} {F : Nat} {this : Nat} {h : xv_H} {r : Unit} {h' : xv_H} (e : m81 F this h = some (r, h')) : xr sc 81 [.ref this] h (fun v g => v = none ∧ g = h') := by
  have e0 : xv_ent (xt_mx 81) [.ref this] = [some (va_rf (some this)), none] := by simp [xv_ent, xv_sl, va_rf_cat, cat_int, cat_long, cat_ref, cat_null, va_rf_some, show xt_mx 81 = 2 from rfl]
  unfold xr
  rw [e0]
  exact t81_0 e
-- CellTree$Client.goWrong()V
def b80_41 (F : Nat) : xm Unit := mr ()
theorem t80_41 {sc : Nat × (Nat → Int32)} {F : Nat} {r : Unit} {h' : xv_H} {d0 : Option Value} {h : xv_H} (e : b80_41 F h = some (r, h')) : xx sc 80 41 [d0] [] h (fun v g => v = none ∧ g = h') := by
  unfold b80_41 at e
  exact d_ret rfl e
def b80_37 (F : Nat) (l0 : Option Nat) : xm Unit := mb (nn l0) fun v1 => mb (vc 1 v1) fun _ => mb (m18 F v1) fun _ => b80_41 F
theorem t80_37 {sc : Nat × (Nat → Int32)} {F : Nat} {r : Unit} {h' : xv_H} {l0 : Option Nat} {h : xv_H} (e : b80_37 F l0 h = some (r, h')) : xx sc 80 37 [some (va_rf l0)] [] h (fun v g => v = none ∧ g = h') := by
  unfold b80_37 at e
  refine xo_aload_nQ (w := l0) rfl rfl ?_
  refine d_nn e (fun v1 g e1 => ?_)
  subst g
  replace e := e1
  clear e1
  refine d_virtual_v (av := []) (rest := []) rfl ⟨by decide, by decide⟩ rfl rfl (by simp [xv_fit, va_rf_cat, cat_int, cat_long, cat_ref, cat_null, show xt_mx 18 = 1 from rfl, show xt_lg 18 = [] from rfl]) (by simp [xv_room, va_rf_cat, cat_int, cat_long, cat_ref, cat_null]) (fun x0 h1 e1 => t18 e1) e (fun _ h e => ?_)
  exact t80_41 e
def b80_27 (F : Nat) (l0 : Option Nat) : xm Unit := mb (nn l0) fun v1 => mb (pr 109 v1 (some (xv_SB + 15))) fun _ => b80_41 F
theorem t80_27 {sc : Nat × (Nat → Int32)} {F : Nat} {r : Unit} {h' : xv_H} {l0 : Option Nat} {h : xv_H} (e : b80_27 F l0 h = some (r, h')) : xx sc 80 27 [some (va_rf l0)] [] h (fun v g => v = none ∧ g = h') := by
  unfold b80_27 at e
  refine xo_aload_nQ (w := l0) rfl rfl ?_
  refine xo_getsV rfl ?_
  refine d_nn e (fun v1 g e1 => ?_)
  subst g
  replace e := e1
  clear e1
  refine d_putr (w := (some (xv_SB + 15))) rfl e (fun h e => ?_)
  refine xo_goto rfl rfl ?_
  exact t80_41 e
def b80_0 (F : Nat) (l0 : Option Nat) : xm Unit := mb (nn l0) fun v1 => mb (vc 1 v1) fun _ => mb (m81 F v1) fun _ => mb (gr 102 v1) fun v2 => mb (nn v2) fun v3 => mb (gi 208 v3) fun v4 => mb (pi_ 208 v3 (v4 - (1 : Int32))) fun _ => mb (gr 102 v1) fun v5 => mb (nn v5) fun v6 => mb (gi 208 v6) fun v7 => if v7 ≤ 0 then b80_37 F (some v1) else b80_27 F (some v1)
theorem t80_0 {sc : Nat × (Nat → Int32)} {F : Nat} {r : Unit} {h' : xv_H} {l0 : Option Nat} {h : xv_H} (e : b80_0 F l0 h = some (r, h')) : xx sc 80 0 [some (va_rf l0)] [] h (fun v g => v = none ∧ g = h') := by
  unfold b80_0 at e
  refine xo_aload_nQ (w := l0) rfl rfl ?_
  refine d_nn e (fun v1 g e1 => ?_)
  subst g
  replace e := e1
  clear e1
  refine d_virtual_v (av := []) (rest := []) rfl ⟨by decide, by decide⟩ rfl rfl (by simp [xv_fit, va_rf_cat, cat_int, cat_long, cat_ref, cat_null, show xt_mx 81 = 2 from rfl, show xt_lg 81 = [] from rfl]) (by simp [xv_room, va_rf_cat, cat_int, cat_long, cat_ref, cat_null]) (fun x0 h1 e1 => t81 e1) e (fun _ h e => ?_)
  refine xo_aload_nQ (w := (some v1)) rfl rfl ?_
  refine d_getr rfl e (fun v2 e => ?_)
  refine xo_dup rfl (by first | rfl | exact va_rf_cat _) ?_
  refine d_nn e (fun v3 g e1 => ?_)
  subst g
  replace e := e1
  clear e1
  refine d_geti rfl e (fun v4 e => ?_)
  refine xo_iconstV (x := 1) rfl (by decide) ?_
  refine xo_isub rfl ?_
  refine d_puti rfl e (fun h e => ?_)
  refine xo_aload_nQ (w := (some v1)) rfl rfl ?_
  refine d_getr rfl e (fun v5 e => ?_)
  refine d_nn e (fun v6 g e1 => ?_)
  subst g
  replace e := e1
  clear e1
  refine d_geti rfl e (fun v7 e => ?_)
  refine d_if_le rfl rfl e (fun _ e => ?_) (fun _ e => ?_)
  · exact t80_37 e
  · exact t80_27 e
def m80 (F : Nat) (this : Nat) : xm Unit := b80_0 F (some this)
theorem t80 {sc : Nat × (Nat → Int32)} {F : Nat} {this : Nat} {h : xv_H} {r : Unit} {h' : xv_H} (e : m80 F this h = some (r, h')) : xr sc 80 [.ref this] h (fun v g => v = none ∧ g = h') := by
  have e0 : xv_ent (xt_mx 80) [.ref this] = [some (va_rf (some this))] := by simp [xv_ent, xv_sl, va_rf_cat, cat_int, cat_long, cat_ref, cat_null, va_rf_some, show xt_mx 80 = 1 from rfl]
  unfold xr
  rw [e0]
  exact t80_0 e
-- CellTree$Transaction.isAnsweredByAll()Z
def b82_33 (F : Nat) : xm Int32 := mb (bz (1 : Int32)) fun _ => mr (1 : Int32)
theorem t82_33 {sc : Nat × (Nat → Int32)} {F : Nat} {r : Int32} {h' : xv_H} {d0 d1 : Option Value} {h : xv_H} (e : b82_33 F h = some (r, h')) : xx sc 82 33 [d0, d1] [] h (fun v g => v = some (.int r) ∧ g = h') := by
  unfold b82_33 at e
  refine xo_iconstV (x := 1) rfl (by decide) ?_
  exact d_zret rfl e
def b82_27 (k2 : Option Nat → Int32 → xm Int32) (F : Nat) (l0 : Option Nat) (l1 : Int32) : xm Int32 := k2 l0 (l1 + (1 : Int32))
theorem t82_27 {sc : Nat × (Nat → Int32)} {F : Nat} {r : Int32} {h' : xv_H} {k2 : Option Nat → Int32 → xm Int32} (hk2 : ∀ (l0 : Option Nat) (l1 : Int32) (h : xv_H), k2 l0 l1 h = some (r, h') → xx sc 82 2 [some (va_rf l0), some (.int l1)] [] h (fun v g => v = some (.int r) ∧ g = h')) {l0 : Option Nat} {l1 : Int32} {h : xv_H} (e : b82_27 k2 F l0 l1 h = some (r, h')) : xx sc 82 27 [some (va_rf l0), some (.int l1)] [] h (fun v g => v = some (.int r) ∧ g = h') := by
  unfold b82_27 at e
  refine xo_iincV (z := 1) rfl (by decide) rfl (Nat.le_of_ble_eq_true rfl) rfl ?_
  refine xo_goto rfl rfl ?_
  exact hk2 _ _ _ e
def b82_25 (k2 : Option Nat → Int32 → xm Int32) (F : Nat) : xm Int32 := mb (bz (0 : Int32)) fun _ => mr (0 : Int32)
theorem t82_25 {sc : Nat × (Nat → Int32)} {F : Nat} {r : Int32} {h' : xv_H} {k2 : Option Nat → Int32 → xm Int32} (hk2 : ∀ (l0 : Option Nat) (l1 : Int32) (h : xv_H), k2 l0 l1 h = some (r, h') → xx sc 82 2 [some (va_rf l0), some (.int l1)] [] h (fun v g => v = some (.int r) ∧ g = h')) {d0 d1 : Option Value} {h : xv_H} (e : b82_25 k2 F h = some (r, h')) : xx sc 82 25 [d0, d1] [] h (fun v g => v = some (.int r) ∧ g = h') := by
  unfold b82_25 at e
  refine xo_iconstV (x := 0) rfl (by decide) ?_
  exact d_zret rfl e
def b82_16 (k2 : Option Nat → Int32 → xm Int32) (F : Nat) (l0 : Option Nat) (l1 : Int32) : xm Int32 := mb (nn l0) fun v1 => mb (gr 403 v1) fun v2 => mb (nn v2) fun v3 => mb (lb v3 l1) fun v4 => if ¬ v4 = 0 then b82_27 k2 F (some v1) l1 else b82_25 k2 F
theorem t82_16 {sc : Nat × (Nat → Int32)} {F : Nat} {r : Int32} {h' : xv_H} {k2 : Option Nat → Int32 → xm Int32} (hk2 : ∀ (l0 : Option Nat) (l1 : Int32) (h : xv_H), k2 l0 l1 h = some (r, h') → xx sc 82 2 [some (va_rf l0), some (.int l1)] [] h (fun v g => v = some (.int r) ∧ g = h')) {l0 : Option Nat} {l1 : Int32} {h : xv_H} (e : b82_16 k2 F l0 l1 h = some (r, h')) : xx sc 82 16 [some (va_rf l0), some (.int l1)] [] h (fun v g => v = some (.int r) ∧ g = h') := by
  unfold b82_16 at e
  refine xo_aload_nQ (w := l0) rfl rfl ?_
  refine d_nn e (fun v1 g e1 => ?_)
  subst g
  replace e := e1
  clear e1
  refine d_getr rfl e (fun v2 e => ?_)
  refine xo_iload_n rfl rfl ?_
  refine d_nn e (fun v3 g e1 => ?_)
  subst g
  replace e := e1
  clear e1
  refine d_bald rfl e (fun v4 e => ?_)
  refine d_if_ne rfl rfl e (fun _ e => ?_) (fun _ e => ?_)
  · exact t82_27 hk2 e
  · exact t82_25 hk2 e
def b82_7 (k2 : Option Nat → Int32 → xm Int32) (F : Nat) (l0 : Option Nat) (l1 : Int32) : xm Int32 := mb (nn l0) fun v1 => mb (gr 402 v1) fun v2 => mb (nn v2) fun v3 => mb (lb v3 l1) fun v4 => if v4 = 0 then b82_27 k2 F (some v1) l1 else b82_16 k2 F (some v1) l1
theorem t82_7 {sc : Nat × (Nat → Int32)} {F : Nat} {r : Int32} {h' : xv_H} {k2 : Option Nat → Int32 → xm Int32} (hk2 : ∀ (l0 : Option Nat) (l1 : Int32) (h : xv_H), k2 l0 l1 h = some (r, h') → xx sc 82 2 [some (va_rf l0), some (.int l1)] [] h (fun v g => v = some (.int r) ∧ g = h')) {l0 : Option Nat} {l1 : Int32} {h : xv_H} (e : b82_7 k2 F l0 l1 h = some (r, h')) : xx sc 82 7 [some (va_rf l0), some (.int l1)] [] h (fun v g => v = some (.int r) ∧ g = h') := by
  unfold b82_7 at e
  refine xo_aload_nQ (w := l0) rfl rfl ?_
  refine d_nn e (fun v1 g e1 => ?_)
  subst g
  replace e := e1
  clear e1
  refine d_getr rfl e (fun v2 e => ?_)
  refine xo_iload_n rfl rfl ?_
  refine d_nn e (fun v3 g e1 => ?_)
  subst g
  replace e := e1
  clear e1
  refine d_bald rfl e (fun v4 e => ?_)
  refine d_if_eq rfl rfl e (fun _ e => ?_) (fun _ e => ?_)
  · exact t82_27 hk2 e
  · exact t82_16 hk2 e
def b82_2 (F : Nat) : Nat → Option Nat → Int32 → xm Int32
  | 0, _, _ => fun _ => none
  | f + 1, l0, l1 => if (3 : Int32) ≤ l1 then b82_33 F else b82_7 (b82_2 F f) F l0 l1
theorem t82_2 {sc : Nat × (Nat → Int32)} {F : Nat} {r : Int32} {h' : xv_H} : ∀ (f : Nat) (l0 : Option Nat) (l1 : Int32) (h : xv_H), b82_2 F f l0 l1 h = some (r, h') → xx sc 82 2 [some (va_rf l0), some (.int l1)] [] h (fun v g => v = some (.int r) ∧ g = h') := by
  intro f
  induction f with
  | zero => intro l0 l1 h e; cases e
  | succ f ih =>
    intro l0 l1 h e
    unfold b82_2 at e
    refine xo_iload_n rfl rfl ?_
    refine xo_iconstV (x := 3) rfl (by decide) ?_
    refine d_icmp_ge rfl rfl e (fun _ e => ?_) (fun _ e => ?_)
    · exact t82_33 e
    · exact t82_7 (fun a0 a1 h e => ih a0 a1 h e) e
def b82_0 (F : Nat) (l0 : Option Nat) : xm Int32 := b82_2 F F l0 (0 : Int32)
theorem t82_0 {sc : Nat × (Nat → Int32)} {F : Nat} {r : Int32} {h' : xv_H} {l0 : Option Nat} {d1 : Option Value} {h : xv_H} (e : b82_0 F l0 h = some (r, h')) : xx sc 82 0 [some (va_rf l0), d1] [] h (fun v g => v = some (.int r) ∧ g = h') := by
  unfold b82_0 at e
  refine xo_iconstV (x := 0) rfl (by decide) ?_
  refine xo_istore_n rfl (Nat.le_of_ble_eq_true rfl) rfl ?_
  exact t82_2 F _ _ _ e
def m82 (F : Nat) (this : Nat) : xm Int32 := b82_0 F (some this)
theorem t82 {sc : Nat × (Nat → Int32)} {F : Nat} {this : Nat} {h : xv_H} {r : Int32} {h' : xv_H} (e : m82 F this h = some (r, h')) : xr sc 82 [.ref this] h (fun v g => v = some (.int r) ∧ g = h') := by
  have e0 : xv_ent (xt_mx 82) [.ref this] = [some (va_rf (some this)), none] := by simp [xv_ent, xv_sl, va_rf_cat, cat_int, cat_long, cat_ref, cat_null, va_rf_some, show xt_mx 82 = 2 from rfl]
  unfold xr
  rw [e0]
  exact t82_0 e
