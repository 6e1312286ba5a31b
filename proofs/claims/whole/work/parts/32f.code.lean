-- CellTree.reachMemory(LCellTree$Message;)V
def b86_84 (F : Nat) : xm Unit := mr ()
theorem t86_84 {sc : Nat × (Nat → Int32)} {F : Nat} {r : Unit} {h' : xv_H} {d0 d1 d2 d3 : Option Value} {h : xv_H} (e : b86_84 F h = some (r, h')) : xx sc 86 84 [d0, d1, d2, d3] [] h (fun v g => v = none ∧ g = h') := by
  unfold b86_84 at e
  exact d_ret rfl e
def b86_73 (F : Nat) (l0 : Option Nat) (l1 : Option Nat) (l3 : Option Nat) : xm Unit := mb (nn l1) fun v1 => mb (gi 802 v1) fun v2 => mb (nn l0) fun v3 => mb (vc 0 v3) fun _ => mb (m52 F v3 (3 : Int32) l3 v2 none) fun _ => b86_84 F
theorem t86_73 {sc : Nat × (Nat → Int32)} {F : Nat} {r : Unit} {h' : xv_H} {l0 : Option Nat} {l1 : Option Nat} {l3 : Option Nat} {d2 : Option Value} {h : xv_H} (e : b86_73 F l0 l1 l3 h = some (r, h')) : xx sc 86 73 [some (va_rf l0), some (va_rf l1), d2, some (va_rf l3)] [] h (fun v g => v = none ∧ g = h') := by
  unfold b86_73 at e
  refine xo_aload_nQ (w := l0) rfl rfl ?_
  refine xo_iconstV (x := 3) rfl (by decide) ?_
  refine xo_aload_nQ (w := l3) rfl rfl ?_
  refine xo_aload_nQ (w := l1) rfl rfl ?_
  refine d_nn e (fun v1 g e1 => ?_)
  subst g
  replace e := e1
  clear e1
  refine d_geti rfl e (fun v2 e => ?_)
  refine xo_nullV rfl ?_
  refine d_nn e (fun v3 g e1 => ?_)
  subst g
  replace e := e1
  clear e1
  refine d_virtual_v (av := [.int (3 : Int32), va_rf l3, .int v2, va_rf none]) (rest := []) rfl ⟨by decide, by decide⟩ rfl rfl (by simp [xv_fit, va_rf_cat, cat_int, cat_long, cat_ref, cat_null, show xt_mx 52 = 5 from rfl, show xt_lg 52 = [] from rfl]) (by simp [xv_room, va_rf_cat, cat_int, cat_long, cat_ref, cat_null]) (fun x0 h1 e1 => t52 e1) e (fun _ h e => ?_)
  exact t86_84 e
def b86_55 (F : Nat) (l0 : Option Nat) (l1 : Option Nat) (l2 : Option Nat) (l3 : Option Nat) : xm Unit := mb (nn l1) fun v1 => mb (gi 802 v1) fun v2 => mb (nn l2) fun v3 => mb (vc 3 v3) fun _ => mb (m97 F v3 l3) fun v4 => mb (nn l0) fun v5 => mb (vc 0 v5) fun _ => mb (m52 F v5 (2 : Int32) l3 v2 v4) fun _ => b86_84 F
theorem t86_55 {sc : Nat × (Nat → Int32)} {F : Nat} {r : Unit} {h' : xv_H} {l0 : Option Nat} {l1 : Option Nat} {l2 : Option Nat} {l3 : Option Nat} {h : xv_H} (e : b86_55 F l0 l1 l2 l3 h = some (r, h')) : xx sc 86 55 [some (va_rf l0), some (va_rf l1), some (va_rf l2), some (va_rf l3)] [] h (fun v g => v = none ∧ g = h') := by
  unfold b86_55 at e
  refine xo_aload_nQ (w := l0) rfl rfl ?_
  refine xo_iconstV (x := 2) rfl (by decide) ?_
  refine xo_aload_nQ (w := l3) rfl rfl ?_
  refine xo_aload_nQ (w := l1) rfl rfl ?_
  refine d_nn e (fun v1 g e1 => ?_)
  subst g
  replace e := e1
  clear e1
  refine d_geti rfl e (fun v2 e => ?_)
  refine xo_aload_nQ (w := l2) rfl rfl ?_
  refine xo_aload_nQ (w := l3) rfl rfl ?_
  refine d_nn e (fun v3 g e1 => ?_)
  subst g
  replace e := e1
  clear e1
  refine d_virtual_a (av := [va_rf l3]) (rest := [.int v2, va_rf l3, .int (2 : Int32), va_rf l0]) rfl ⟨by decide, by decide⟩ rfl rfl (by simp [xv_fit, va_rf_cat, cat_int, cat_long, cat_ref, cat_null, show xt_mx 97 = 2 from rfl, show xt_lg 97 = [] from rfl]) (by simp [xv_room, va_rf_cat, cat_int, cat_long, cat_ref, cat_null]) (fun x0 h1 e1 => t97 e1) e (fun v4 h e => ?_)
  refine d_nn e (fun v5 g e1 => ?_)
  subst g
  replace e := e1
  clear e1
  refine d_virtual_v (av := [.int (2 : Int32), va_rf l3, .int v2, va_rf v4]) (rest := []) rfl ⟨by decide, by decide⟩ rfl rfl (by simp [xv_fit, va_rf_cat, cat_int, cat_long, cat_ref, cat_null, show xt_mx 52 = 5 from rfl, show xt_lg 52 = [] from rfl]) (by simp [xv_room, va_rf_cat, cat_int, cat_long, cat_ref, cat_null]) (fun x0 h1 e1 => t52 e1) e (fun _ h e => ?_)
  refine xo_goto rfl rfl ?_
  exact t86_84 e
def b86_47 (F : Nat) (l0 : Option Nat) (l1 : Option Nat) (l2 : Option Nat) (l3 : Option Nat) : xm Unit := mb (nn l2) fun v1 => mb (vc 3 v1) fun _ => mb (m93 F v1 l3) fun v2 => if v2 = 0 then b86_73 F l0 l1 l3 else b86_55 F l0 l1 (some v1) l3
theorem t86_47 {sc : Nat × (Nat → Int32)} {F : Nat} {r : Unit} {h' : xv_H} {l0 : Option Nat} {l1 : Option Nat} {l2 : Option Nat} {l3 : Option Nat} {h : xv_H} (e : b86_47 F l0 l1 l2 l3 h = some (r, h')) : xx sc 86 47 [some (va_rf l0), some (va_rf l1), some (va_rf l2), some (va_rf l3)] [] h (fun v g => v = none ∧ g = h') := by
  unfold b86_47 at e
  refine xo_aload_nQ (w := l2) rfl rfl ?_
  refine xo_aload_nQ (w := l3) rfl rfl ?_
  refine d_nn e (fun v1 g e1 => ?_)
  subst g
  replace e := e1
  clear e1
  refine d_virtual_i (av := [va_rf l3]) (rest := []) rfl ⟨by decide, by decide⟩ rfl rfl (by simp [xv_fit, va_rf_cat, cat_int, cat_long, cat_ref, cat_null, show xt_mx 93 = 3 from rfl, show xt_lg 93 = [] from rfl]) (by simp [xv_room, va_rf_cat, cat_int, cat_long, cat_ref, cat_null]) (fun x0 h1 e1 => t93 e1) e (fun v2 h e => ?_)
  refine d_if_eq rfl rfl e (fun _ e => ?_) (fun _ e => ?_)
  · exact t86_73 e
  · exact t86_55 e
def b86_39 (F : Nat) (l2 : Option Nat) (l3 : Option Nat) : xm Unit := mb (nn l2) fun v1 => mb (vc 3 v1) fun _ => mb (m92 F v1 l3) fun _ => b86_84 F
theorem t86_39 {sc : Nat × (Nat → Int32)} {F : Nat} {r : Unit} {h' : xv_H} {l2 : Option Nat} {l3 : Option Nat} {d0 d1 : Option Value} {h : xv_H} (e : b86_39 F l2 l3 h = some (r, h')) : xx sc 86 39 [d0, d1, some (va_rf l2), some (va_rf l3)] [] h (fun v g => v = none ∧ g = h') := by
  unfold b86_39 at e
  refine xo_aload_nQ (w := l2) rfl rfl ?_
  refine xo_aload_nQ (w := l3) rfl rfl ?_
  refine d_nn e (fun v1 g e1 => ?_)
  subst g
  replace e := e1
  clear e1
  refine d_virtual_v (av := [va_rf l3]) (rest := []) rfl ⟨by decide, by decide⟩ rfl rfl (by simp [xv_fit, va_rf_cat, cat_int, cat_long, cat_ref, cat_null, show xt_mx 92 = 3 from rfl, show xt_lg 92 = [] from rfl]) (by simp [xv_room, va_rf_cat, cat_int, cat_long, cat_ref, cat_null]) (fun x0 h1 e1 => t92 e1) e (fun _ h e => ?_)
  refine xo_goto rfl rfl ?_
  exact t86_84 e
def b86_31 (F : Nat) (l0 : Option Nat) (l1 : Option Nat) (l2 : Option Nat) (l3 : Option Nat) : xm Unit := mb (nn l1) fun v1 => mb (gi 800 v1) fun v2 => if ¬ v2 = (5 : Int32) then b86_47 F l0 (some v1) l2 l3 else b86_39 F l2 l3
theorem t86_31 {sc : Nat × (Nat → Int32)} {F : Nat} {r : Unit} {h' : xv_H} {l0 : Option Nat} {l1 : Option Nat} {l2 : Option Nat} {l3 : Option Nat} {h : xv_H} (e : b86_31 F l0 l1 l2 l3 h = some (r, h')) : xx sc 86 31 [some (va_rf l0), some (va_rf l1), some (va_rf l2), some (va_rf l3)] [] h (fun v g => v = none ∧ g = h') := by
  unfold b86_31 at e
  refine xo_aload_nQ (w := l1) rfl rfl ?_
  refine d_nn e (fun v1 g e1 => ?_)
  subst g
  replace e := e1
  clear e1
  refine d_geti rfl e (fun v2 e => ?_)
  refine xo_iconstV (x := 5) rfl (by decide) ?_
  refine d_icmp_ne rfl rfl e (fun _ e => ?_) (fun _ e => ?_)
  · exact t86_47 e
  · exact t86_39 e
def b86_23 (F : Nat) (l2 : Option Nat) (l3 : Option Nat) : xm Unit := mb (nn l2) fun v1 => mb (vc 3 v1) fun _ => mb (m87 F v1 l3) fun _ => b86_84 F
theorem t86_23 {sc : Nat × (Nat → Int32)} {F : Nat} {r : Unit} {h' : xv_H} {l2 : Option Nat} {l3 : Option Nat} {d0 d1 : Option Value} {h : xv_H} (e : b86_23 F l2 l3 h = some (r, h')) : xx sc 86 23 [d0, d1, some (va_rf l2), some (va_rf l3)] [] h (fun v g => v = none ∧ g = h') := by
  unfold b86_23 at e
  refine xo_aload_nQ (w := l2) rfl rfl ?_
  refine xo_aload_nQ (w := l3) rfl rfl ?_
  refine d_nn e (fun v1 g e1 => ?_)
  subst g
  replace e := e1
  clear e1
  refine d_virtual_v (av := [va_rf l3]) (rest := []) rfl ⟨by decide, by decide⟩ rfl rfl (by simp [xv_fit, va_rf_cat, cat_int, cat_long, cat_ref, cat_null, show xt_mx 87 = 2 from rfl, show xt_lg 87 = [] from rfl]) (by simp [xv_room, va_rf_cat, cat_int, cat_long, cat_ref, cat_null]) (fun x0 h1 e1 => t87 e1) e (fun _ h e => ?_)
  refine xo_goto rfl rfl ?_
  exact t86_84 e
def b86_0 (F : Nat) (l0 : Option Nat) (l1 : Option Nat) : xm Unit := mb (nn l0) fun v1 => mb (gr 0 v1) fun v2 => mb (nn l1) fun v3 => mb (gi 802 v3) fun v4 => mb (nn v2) fun v5 => mb (lr 104 v5 v4) fun v6 => mb (gr 801 v3) fun v7 => mb (gi 800 v3) fun v8 => if ¬ v8 = (4 : Int32) then b86_31 F (some v1) (some v3) v6 v7 else b86_23 F v6 v7
theorem t86_0 {sc : Nat × (Nat → Int32)} {F : Nat} {r : Unit} {h' : xv_H} {l0 : Option Nat} {l1 : Option Nat} {d2 d3 : Option Value} {h : xv_H} (e : b86_0 F l0 l1 h = some (r, h')) : xx sc 86 0 [some (va_rf l0), some (va_rf l1), d2, d3] [] h (fun v g => v = none ∧ g = h') := by
  unfold b86_0 at e
  refine xo_aload_nQ (w := l0) rfl rfl ?_
  refine d_nn e (fun v1 g e1 => ?_)
  subst g
  replace e := e1
  clear e1
  refine d_getr rfl e (fun v2 e => ?_)
  refine xo_aload_nQ (w := l1) rfl rfl ?_
  refine d_nn e (fun v3 g e1 => ?_)
  subst g
  replace e := e1
  clear e1
  refine d_geti rfl e (fun v4 e => ?_)
  refine d_nn e (fun v5 g e1 => ?_)
  subst g
  replace e := e1
  clear e1
  refine d_aald rfl e (fun v6 e => ?_)
  refine xo_astore_nQ (w := v6) rfl (Nat.le_of_ble_eq_true rfl) rfl ?_
  refine xo_aload_nQ (w := (some v3)) rfl rfl ?_
  refine d_getr rfl e (fun v7 e => ?_)
  refine xo_astore_nQ (w := v7) rfl (Nat.le_of_ble_eq_true rfl) rfl ?_
  refine xo_aload_nQ (w := (some v3)) rfl rfl ?_
  refine d_geti rfl e (fun v8 e => ?_)
  refine xo_iconstV (x := 4) rfl (by decide) ?_
  refine d_icmp_ne rfl rfl e (fun _ e => ?_) (fun _ e => ?_)
  · exact t86_31 e
  · exact t86_23 e
def m86 (F : Nat) (this : Nat) (p0 : Option Nat) : xm Unit := b86_0 F (some this) p0
theorem t86 {sc : Nat × (Nat → Int32)} {F : Nat} {this : Nat} {p0 : Option Nat} {h : xv_H} {r : Unit} {h' : xv_H} (e : m86 F this p0 h = some (r, h')) : xr sc 86 [.ref this, va_rf p0] h (fun v g => v = none ∧ g = h') := by
  have e0 : xv_ent (xt_mx 86) [.ref this, va_rf p0] = [some (va_rf (some this)), some (va_rf p0), none, none] := by simp [xv_ent, xv_sl, va_rf_cat, cat_int, cat_long, cat_ref, cat_null, va_rf_some, show xt_mx 86 = 4 from rfl]
  unfold xr
  rw [e0]
  exact t86_0 e
-- CellTree.deliver(I)Z
def b74_66 (F : Nat) : xm Int32 := mb (bz (1 : Int32)) fun _ => mr (1 : Int32)
theorem t74_66 {sc : Nat × (Nat → Int32)} {F : Nat} {r : Int32} {h' : xv_H} {d0 d1 d2 : Option Value} {h : xv_H} (e : b74_66 F h = some (r, h')) : xx sc 74 66 [d0, d1, d2] [] h (fun v g => v = some (.int r) ∧ g = h') := by
  unfold b74_66 at e
  refine xo_iconstV (x := 1) rfl (by decide) ?_
  exact d_zret rfl e
def b74_61 (F : Nat) (l0 : Option Nat) (l2 : Option Nat) : xm Int32 := mb (nn l0) fun v1 => mb (vc 0 v1) fun _ => mb (m86 F v1 l2) fun _ => b74_66 F
theorem t74_61 {sc : Nat × (Nat → Int32)} {F : Nat} {r : Int32} {h' : xv_H} {l0 : Option Nat} {l2 : Option Nat} {d1 : Option Value} {h : xv_H} (e : b74_61 F l0 l2 h = some (r, h')) : xx sc 74 61 [some (va_rf l0), d1, some (va_rf l2)] [] h (fun v g => v = some (.int r) ∧ g = h') := by
  unfold b74_61 at e
  refine xo_aload_nQ (w := l0) rfl rfl ?_
  refine xo_aload_nQ (w := l2) rfl rfl ?_
  refine d_nn e (fun v1 g e1 => ?_)
  subst g
  replace e := e1
  clear e1
  refine d_virtual_v (av := [va_rf l2]) (rest := []) rfl ⟨by decide, by decide⟩ rfl rfl (by simp [xv_fit, va_rf_cat, cat_int, cat_long, cat_ref, cat_null, show xt_mx 86 = 4 from rfl, show xt_lg 86 = [] from rfl]) (by simp [xv_room, va_rf_cat, cat_int, cat_long, cat_ref, cat_null]) (fun x0 h1 e1 => t86 e1) e (fun _ h e => ?_)
  exact t74_66 e
def b74_46 (F : Nat) (l0 : Option Nat) (l2 : Option Nat) : xm Int32 := mb (nn l0) fun v1 => mb (gr 0 v1) fun v2 => mb (nn l2) fun v3 => mb (gi 802 v3) fun v4 => mb (nn v2) fun v5 => mb (lr 104 v5 v4) fun v6 => mb (nn v6) fun v7 => mb (gi 304 v7) fun v8 => if v8 = 0 then b74_66 F else b74_61 F (some v1) (some v3)
theorem t74_46 {sc : Nat × (Nat → Int32)} {F : Nat} {r : Int32} {h' : xv_H} {l0 : Option Nat} {l2 : Option Nat} {d1 : Option Value} {h : xv_H} (e : b74_46 F l0 l2 h = some (r, h')) : xx sc 74 46 [some (va_rf l0), d1, some (va_rf l2)] [] h (fun v g => v = some (.int r) ∧ g = h') := by
  unfold b74_46 at e
  refine xo_aload_nQ (w := l0) rfl rfl ?_
  refine d_nn e (fun v1 g e1 => ?_)
  subst g
  replace e := e1
  clear e1
  refine d_getr rfl e (fun v2 e => ?_)
  refine xo_aload_nQ (w := l2) rfl rfl ?_
  refine d_nn e (fun v3 g e1 => ?_)
  subst g
  replace e := e1
  clear e1
  refine d_geti rfl e (fun v4 e => ?_)
  refine d_nn e (fun v5 g e1 => ?_)
  subst g
  replace e := e1
  clear e1
  refine d_aald rfl e (fun v6 e => ?_)
  refine d_nn e (fun v7 g e1 => ?_)
  subst g
  replace e := e1
  clear e1
  refine d_getz rfl e (fun v8 e => ?_)
  refine d_if_eq rfl rfl e (fun _ e => ?_) (fun _ e => ?_)
  · exact t74_66 e
  · exact t74_61 e
def b74_38 (F : Nat) (l0 : Option Nat) (l2 : Option Nat) : xm Int32 := mb (nn l0) fun v1 => mb (vc 0 v1) fun _ => mb (m77 F v1 l2) fun _ => b74_66 F
theorem t74_38 {sc : Nat × (Nat → Int32)} {F : Nat} {r : Int32} {h' : xv_H} {l0 : Option Nat} {l2 : Option Nat} {d1 : Option Value} {h : xv_H} (e : b74_38 F l0 l2 h = some (r, h')) : xx sc 74 38 [some (va_rf l0), d1, some (va_rf l2)] [] h (fun v g => v = some (.int r) ∧ g = h') := by
  unfold b74_38 at e
  refine xo_aload_nQ (w := l0) rfl rfl ?_
  refine xo_aload_nQ (w := l2) rfl rfl ?_
  refine d_nn e (fun v1 g e1 => ?_)
  subst g
  replace e := e1
  clear e1
  refine d_virtual_v (av := [va_rf l2]) (rest := []) rfl ⟨by decide, by decide⟩ rfl rfl (by simp [xv_fit, va_rf_cat, cat_int, cat_long, cat_ref, cat_null, show xt_mx 77 = 3 from rfl, show xt_lg 77 = [] from rfl]) (by simp [xv_room, va_rf_cat, cat_int, cat_long, cat_ref, cat_null]) (fun x0 h1 e1 => t77 e1) e (fun _ h e => ?_)
  refine xo_goto rfl rfl ?_
  exact t74_66 e
def b74_30 (F : Nat) (l0 : Option Nat) (l2 : Option Nat) : xm Int32 := mb (nn l2) fun v1 => mb (gi 800 v1) fun v2 => if ¬ v2 = (3 : Int32) then b74_46 F l0 (some v1) else b74_38 F l0 (some v1)
theorem t74_30 {sc : Nat × (Nat → Int32)} {F : Nat} {r : Int32} {h' : xv_H} {l0 : Option Nat} {l2 : Option Nat} {d1 : Option Value} {h : xv_H} (e : b74_30 F l0 l2 h = some (r, h')) : xx sc 74 30 [some (va_rf l0), d1, some (va_rf l2)] [] h (fun v g => v = some (.int r) ∧ g = h') := by
  unfold b74_30 at e
  refine xo_aload_nQ (w := l2) rfl rfl ?_
  refine d_nn e (fun v1 g e1 => ?_)
  subst g
  replace e := e1
  clear e1
  refine d_geti rfl e (fun v2 e => ?_)
  refine xo_iconstV (x := 3) rfl (by decide) ?_
  refine d_icmp_ne rfl rfl e (fun _ e => ?_) (fun _ e => ?_)
  · exact t74_46 e
  · exact t74_38 e
def b74_10 (F : Nat) (l0 : Option Nat) (l1 : Int32) : xm Int32 := mb (nn l0) fun v1 => mb (gr 2 v1) fun v2 => mb (nn v2) fun v3 => mb (vc 10 v3) fun _ => mb (m75 F v3 l1) fun v4 => mb (ct 8 v4) fun _ => mb (nn v4) fun v5 => mb (gi 800 v5) fun v6 => if v6 = (2 : Int32) then b74_38 F (some v1) (some v5) else b74_30 F (some v1) (some v5)
theorem t74_10 {sc : Nat × (Nat → Int32)} {F : Nat} {r : Int32} {h' : xv_H} {l0 : Option Nat} {l1 : Int32} {d2 : Option Value} {h : xv_H} (e : b74_10 F l0 l1 h = some (r, h')) : xx sc 74 10 [some (va_rf l0), some (.int l1), d2] [] h (fun v g => v = some (.int r) ∧ g = h') := by
  unfold b74_10 at e
  refine xo_aload_nQ (w := l0) rfl rfl ?_
  refine d_nn e (fun v1 g e1 => ?_)
  subst g
  replace e := e1
  clear e1
  refine d_getr rfl e (fun v2 e => ?_)
  refine xo_iload_n rfl rfl ?_
  refine d_nn e (fun v3 g e1 => ?_)
  subst g
  replace e := e1
  clear e1
  refine d_virtual_a (av := [.int l1]) (rest := []) rfl ⟨by decide, by decide⟩ rfl rfl (by simp [xv_fit, va_rf_cat, cat_int, cat_long, cat_ref, cat_null, show xt_mx 75 = 4 from rfl, show xt_lg 75 = [] from rfl]) (by simp [xv_room, va_rf_cat, cat_int, cat_long, cat_ref, cat_null]) (fun x0 h1 e1 => t75 e1) e (fun v4 h e => ?_)
  refine d_cast (w := v4) rfl e (fun e => ?_)
  refine xo_astore_nQ (w := v4) rfl (Nat.le_of_ble_eq_true rfl) rfl ?_
  refine xo_aload_nQ (w := v4) rfl rfl ?_
  refine d_nn e (fun v5 g e1 => ?_)
  subst g
  replace e := e1
  clear e1
  refine d_geti rfl e (fun v6 e => ?_)
  refine xo_iconstV (x := 2) rfl (by decide) ?_
  refine d_icmp_eq rfl rfl e (fun _ e => ?_) (fun _ e => ?_)
  · exact t74_38 e
  · exact t74_30 e
def b74_8 (F : Nat) : xm Int32 := mb (bz (0 : Int32)) fun _ => mr (0 : Int32)
theorem t74_8 {sc : Nat × (Nat → Int32)} {F : Nat} {r : Int32} {h' : xv_H} {d0 d1 d2 : Option Value} {h : xv_H} (e : b74_8 F h = some (r, h')) : xx sc 74 8 [d0, d1, d2] [] h (fun v g => v = some (.int r) ∧ g = h') := by
  unfold b74_8 at e
  refine xo_iconstV (x := 0) rfl (by decide) ?_
  exact d_zret rfl e
def b74_0 (F : Nat) (l0 : Option Nat) (l1 : Int32) : xm Int32 := mb (nn l0) fun v1 => mb (vc 0 v1) fun _ => mb (m68 F v1 l1) fun v2 => if ¬ v2 = 0 then b74_10 F (some v1) l1 else b74_8 F
theorem t74_0 {sc : Nat × (Nat → Int32)} {F : Nat} {r : Int32} {h' : xv_H} {l0 : Option Nat} {l1 : Int32} {d2 : Option Value} {h : xv_H} (e : b74_0 F l0 l1 h = some (r, h')) : xx sc 74 0 [some (va_rf l0), some (.int l1), d2] [] h (fun v g => v = some (.int r) ∧ g = h') := by
  unfold b74_0 at e
  refine xo_aload_nQ (w := l0) rfl rfl ?_
  refine xo_iload_n rfl rfl ?_
  refine d_nn e (fun v1 g e1 => ?_)
  subst g
  replace e := e1
  clear e1
  refine d_virtual_i (av := [.int l1]) (rest := []) rfl ⟨by decide, by decide⟩ rfl rfl (by simp [xv_fit, va_rf_cat, cat_int, cat_long, cat_ref, cat_null, show xt_mx 68 = 2 from rfl, show xt_lg 68 = [] from rfl]) (by simp [xv_room, va_rf_cat, cat_int, cat_long, cat_ref, cat_null]) (fun x0 h1 e1 => t68 e1) e (fun v2 h e => ?_)
  refine d_if_ne rfl rfl e (fun _ e => ?_) (fun _ e => ?_)
  · exact t74_10 e
  · exact t74_8 e
def m74 (F : Nat) (this : Nat) (p0 : Int32) : xm Int32 := b74_0 F (some this) p0
theorem t74 {sc : Nat × (Nat → Int32)} {F : Nat} {this : Nat} {p0 : Int32} {h : xv_H} {r : Int32} {h' : xv_H} (e : m74 F this p0 h = some (r, h')) : xr sc 74 [.ref this, .int p0] h (fun v g => v = some (.int r) ∧ g = h') := by
  have e0 : xv_ent (xt_mx 74) [.ref this, .int p0] = [some (va_rf (some this)), some (.int p0), none] := by simp [xv_ent, xv_sl, va_rf_cat, cat_int, cat_long, cat_ref, cat_null, va_rf_some, show xt_mx 74 = 3 from rfl]
  unfold xr
  rw [e0]
  exact t74_0 e
-- CellTree.drop(I)Z
def b98_10 (F : Nat) (l0 : Option Nat) (l1 : Int32) : xm Int32 := mb (nn l0) fun v1 => mb (gr 2 v1) fun v2 => mb (nn v2) fun v3 => mb (vc 10 v3) fun _ => mb (m75 F v3 l1) fun v4 => mb (bz (1 : Int32)) fun _ => mr (1 : Int32)
theorem t98_10 {sc : Nat × (Nat → Int32)} {F : Nat} {r : Int32} {h' : xv_H} {l0 : Option Nat} {l1 : Int32} {h : xv_H} (e : b98_10 F l0 l1 h = some (r, h')) : xx sc 98 10 [some (va_rf l0), some (.int l1)] [] h (fun v g => v = some (.int r) ∧ g = h') := by
  unfold b98_10 at e
  refine xo_aload_nQ (w := l0) rfl rfl ?_
  refine d_nn e (fun v1 g e1 => ?_)
  subst g
  replace e := e1
  clear e1
  refine d_getr rfl e (fun v2 e => ?_)
  refine xo_iload_n rfl rfl ?_
  refine d_nn e (fun v3 g e1 => ?_)
  subst g
  replace e := e1
  clear e1
  refine d_virtual_a (av := [.int l1]) (rest := []) rfl ⟨by decide, by decide⟩ rfl rfl (by simp [xv_fit, va_rf_cat, cat_int, cat_long, cat_ref, cat_null, show xt_mx 75 = 4 from rfl, show xt_lg 75 = [] from rfl]) (by simp [xv_room, va_rf_cat, cat_int, cat_long, cat_ref, cat_null]) (fun x0 h1 e1 => t75 e1) e (fun v4 h e => ?_)
  refine xo_pop rfl (by first | rfl | exact va_rf_cat _) ?_
  refine xo_iconstV (x := 1) rfl (by decide) ?_
  exact d_zret rfl e
def b98_8 (F : Nat) : xm Int32 := mb (bz (0 : Int32)) fun _ => mr (0 : Int32)
theorem t98_8 {sc : Nat × (Nat → Int32)} {F : Nat} {r : Int32} {h' : xv_H} {d0 d1 : Option Value} {h : xv_H} (e : b98_8 F h = some (r, h')) : xx sc 98 8 [d0, d1] [] h (fun v g => v = some (.int r) ∧ g = h') := by
  unfold b98_8 at e
  refine xo_iconstV (x := 0) rfl (by decide) ?_
  exact d_zret rfl e
def b98_0 (F : Nat) (l0 : Option Nat) (l1 : Int32) : xm Int32 := mb (nn l0) fun v1 => mb (vc 0 v1) fun _ => mb (m68 F v1 l1) fun v2 => if ¬ v2 = 0 then b98_10 F (some v1) l1 else b98_8 F
theorem t98_0 {sc : Nat × (Nat → Int32)} {F : Nat} {r : Int32} {h' : xv_H} {l0 : Option Nat} {l1 : Int32} {h : xv_H} (e : b98_0 F l0 l1 h = some (r, h')) : xx sc 98 0 [some (va_rf l0), some (.int l1)] [] h (fun v g => v = some (.int r) ∧ g = h') := by
  unfold b98_0 at e
  refine xo_aload_nQ (w := l0) rfl rfl ?_
  refine xo_iload_n rfl rfl ?_
  refine d_nn e (fun v1 g e1 => ?_)
  subst g
  replace e := e1
  clear e1
  refine d_virtual_i (av := [.int l1]) (rest := []) rfl ⟨by decide, by decide⟩ rfl rfl (by simp [xv_fit, va_rf_cat, cat_int, cat_long, cat_ref, cat_null, show xt_mx 68 = 2 from rfl, show xt_lg 68 = [] from rfl]) (by simp [xv_room, va_rf_cat, cat_int, cat_long, cat_ref, cat_null]) (fun x0 h1 e1 => t68 e1) e (fun v2 h e => ?_)
  refine d_if_ne rfl rfl e (fun _ e => ?_) (fun _ e => ?_)
  · exact t98_10 e
  · exact t98_8 e
def m98 (F : Nat) (this : Nat) (p0 : Int32) : xm Int32 := b98_0 F (some this) p0
theorem t98 {sc : Nat × (Nat → Int32)} {F : Nat} {this : Nat} {p0 : Int32} {h : xv_H} {r : Int32} {h' : xv_H} (e : m98 F this p0 h = some (r, h')) : xr sc 98 [.ref this, .int p0] h (fun v g => v = some (.int r) ∧ g = h') := by
  have e0 : xv_ent (xt_mx 98) [.ref this, .int p0] = [some (va_rf (some this)), some (.int p0)] := by simp [xv_ent, xv_sl, va_rf_cat, cat_int, cat_long, cat_ref, cat_null, va_rf_some, show xt_mx 98 = 2 from rfl]
  unfold xr
  rw [e0]
  exact t98_0 e
-- CellTree.resend(I)I
def b99_21 (F : Nat) (l0 : Option Nat) (l1 : Int32) : xm Int32 := mb (nn l0) fun v1 => mb (gr 1 v1) fun v2 => mb (nn v2) fun v3 => mb (lr 105 v3 l1) fun v4 => mb (nn v4) fun v5 => mb (gr 111 v5) fun v6 => mb (vc 0 v1) fun _ => mb (m51 F v1 v6) fun v7 => mr v7
theorem t99_21 {sc : Nat × (Nat → Int32)} {F : Nat} {r : Int32} {h' : xv_H} {l0 : Option Nat} {l1 : Int32} {h : xv_H} (e : b99_21 F l0 l1 h = some (r, h')) : xx sc 99 21 [some (va_rf l0), some (.int l1)] [] h (fun v g => v = some (.int r) ∧ g = h') := by
  unfold b99_21 at e
  refine xo_aload_nQ (w := l0) rfl rfl ?_
  refine xo_aload_nQ (w := l0) rfl rfl ?_
  refine d_nn e (fun v1 g e1 => ?_)
  subst g
  replace e := e1
  clear e1
  refine d_getr rfl e (fun v2 e => ?_)
  refine xo_iload_n rfl rfl ?_
  refine d_nn e (fun v3 g e1 => ?_)
  subst g
  replace e := e1
  clear e1
  refine d_aald rfl e (fun v4 e => ?_)
  refine d_nn e (fun v5 g e1 => ?_)
  subst g
  replace e := e1
  clear e1
  refine d_getr rfl e (fun v6 e => ?_)
  refine d_virtual_i (av := [va_rf v6]) (rest := []) rfl ⟨by decide, by decide⟩ rfl rfl (by simp [xv_fit, va_rf_cat, cat_int, cat_long, cat_ref, cat_null, show xt_mx 51 = 4 from rfl, show xt_lg 51 = [] from rfl]) (by simp [xv_room, va_rf_cat, cat_int, cat_long, cat_ref, cat_null]) (fun x0 h1 e1 => t51 e1) e (fun v7 h e => ?_)
  exact d_iret rfl e
def b99_19 (F : Nat) : xm Int32 := mr (-1 : Int32)
theorem t99_19 {sc : Nat × (Nat → Int32)} {F : Nat} {r : Int32} {h' : xv_H} {d0 d1 : Option Value} {h : xv_H} (e : b99_19 F h = some (r, h')) : xx sc 99 19 [d0, d1] [] h (fun v g => v = some (.int r) ∧ g = h') := by
  unfold b99_19 at e
  refine xo_iconstV (x := (-1)) rfl (by decide) ?_
  exact d_iret rfl e
def b99_7 (F : Nat) (l0 : Option Nat) (l1 : Int32) : xm Int32 := mb (nn l0) fun v1 => mb (gr 1 v1) fun v2 => mb (nn v2) fun v3 => mb (lr 105 v3 l1) fun v4 => mb (nn v4) fun v5 => mb (gr 111 v5) fun v6 => if ¬ v6 = none then b99_21 F (some v1) l1 else b99_19 F
theorem t99_7 {sc : Nat × (Nat → Int32)} {F : Nat} {r : Int32} {h' : xv_H} {l0 : Option Nat} {l1 : Int32} {h : xv_H} (e : b99_7 F l0 l1 h = some (r, h')) : xx sc 99 7 [some (va_rf l0), some (.int l1)] [] h (fun v g => v = some (.int r) ∧ g = h') := by
  unfold b99_7 at e
  refine xo_aload_nQ (w := l0) rfl rfl ?_
  refine d_nn e (fun v1 g e1 => ?_)
  subst g
  replace e := e1
  clear e1
  refine d_getr rfl e (fun v2 e => ?_)
  refine xo_iload_n rfl rfl ?_
  refine d_nn e (fun v3 g e1 => ?_)
  subst g
  replace e := e1
  clear e1
  refine d_aald rfl e (fun v4 e => ?_)
  refine d_nn e (fun v5 g e1 => ?_)
  subst g
  replace e := e1
  clear e1
  refine d_getr rfl e (fun v6 e => ?_)
  refine d_ifnonnull (w := v6) rfl rfl e (fun _ e => ?_) (fun _ e => ?_)
  · exact t99_21 e
  · exact t99_19 e
def b99_0 (F : Nat) (l0 : Option Nat) (l1 : Int32) : xm Int32 := mb (m11 F l1) fun v1 => if v1 = 0 then b99_19 F else b99_7 F l0 l1
theorem t99_0 {sc : Nat × (Nat → Int32)} {F : Nat} {r : Int32} {h' : xv_H} {l0 : Option Nat} {l1 : Int32} {h : xv_H} (e : b99_0 F l0 l1 h = some (r, h')) : xx sc 99 0 [some (va_rf l0), some (.int l1)] [] h (fun v g => v = some (.int r) ∧ g = h') := by
  unfold b99_0 at e
  refine xo_iload_n rfl rfl ?_
  refine d_static_i (av := [.int l1]) (rest := []) rfl ⟨by decide, by decide, by decide⟩ rfl rfl (by simp [xv_fit, va_rf_cat, cat_int, cat_long, cat_ref, cat_null, show xt_mx 11 = 1 from rfl, show xt_lg 11 = [] from rfl]) (by simp [xv_room, va_rf_cat, cat_int, cat_long, cat_ref, cat_null]) (fun x0 h1 e1 => t11 e1) e (fun v1 h e => ?_)
  refine d_if_eq rfl rfl e (fun _ e => ?_) (fun _ e => ?_)
  · exact t99_19 e
  · exact t99_7 e
def m99 (F : Nat) (this : Nat) (p0 : Int32) : xm Int32 := b99_0 F (some this) p0
theorem t99 {sc : Nat × (Nat → Int32)} {F : Nat} {this : Nat} {p0 : Int32} {h : xv_H} {r : Int32} {h' : xv_H} (e : m99 F this p0 h = some (r, h')) : xr sc 99 [.ref this, .int p0] h (fun v g => v = some (.int r) ∧ g = h') := by
  have e0 : xv_ent (xt_mx 99) [.ref this, .int p0] = [some (va_rf (some this)), some (.int p0)] := by simp [xv_ent, xv_sl, va_rf_cat, cat_int, cat_long, cat_ref, cat_null, va_rf_some, show xt_mx 99 = 2 from rfl]
  unfold xr
  rw [e0]
  exact t99_0 e
-- CellTree.isPlace(I)Z
def b101_14 (F : Nat) (s0 : Int32) : xm Int32 := mb (bz s0) fun _ => mr s0
theorem t101_14 {sc : Nat × (Nat → Int32)} {F : Nat} {r : Int32} {h' : xv_H} {s0 : Int32} {d0 : Option Value} {h : xv_H} (e : b101_14 F s0 h = some (r, h')) : xx sc 101 14 [d0] [.int s0] h (fun v g => v = some (.int r) ∧ g = h') := by
  unfold b101_14 at e
  exact d_zret rfl e
def b101_13 (F : Nat) : xm Int32 := b101_14 F (0 : Int32)
theorem t101_13 {sc : Nat × (Nat → Int32)} {F : Nat} {r : Int32} {h' : xv_H} {d0 : Option Value} {h : xv_H} (e : b101_13 F h = some (r, h')) : xx sc 101 13 [d0] [] h (fun v g => v = some (.int r) ∧ g = h') := by
  unfold b101_13 at e
  refine xo_iconstV (x := 0) rfl (by decide) ?_
  exact t101_14 e
def b101_9 (F : Nat) : xm Int32 := b101_14 F (1 : Int32)
theorem t101_9 {sc : Nat × (Nat → Int32)} {F : Nat} {r : Int32} {h' : xv_H} {d0 : Option Value} {h : xv_H} (e : b101_9 F h = some (r, h')) : xx sc 101 9 [d0] [] h (fun v g => v = some (.int r) ∧ g = h') := by
  unfold b101_9 at e
  refine xo_iconstV (x := 1) rfl (by decide) ?_
  refine xo_goto rfl rfl ?_
  exact t101_14 e
def b101_4 (F : Nat) (l0 : Int32) : xm Int32 := if (5 : Int32) ≤ l0 then b101_13 F else b101_9 F
theorem t101_4 {sc : Nat × (Nat → Int32)} {F : Nat} {r : Int32} {h' : xv_H} {l0 : Int32} {h : xv_H} (e : b101_4 F l0 h = some (r, h')) : xx sc 101 4 [some (.int l0)] [] h (fun v g => v = some (.int r) ∧ g = h') := by
  unfold b101_4 at e
  refine xo_iload_n rfl rfl ?_
  refine xo_iconstV (x := 5) rfl (by decide) ?_
  refine d_icmp_ge rfl rfl e (fun _ e => ?_) (fun _ e => ?_)
  · exact t101_13 e
  · exact t101_9 e
def b101_0 (F : Nat) (l0 : Int32) : xm Int32 := if l0 < 0 then b101_13 F else b101_4 F l0
theorem t101_0 {sc : Nat × (Nat → Int32)} {F : Nat} {r : Int32} {h' : xv_H} {l0 : Int32} {h : xv_H} (e : b101_0 F l0 h = some (r, h')) : xx sc 101 0 [some (.int l0)] [] h (fun v g => v = some (.int r) ∧ g = h') := by
  unfold b101_0 at e
  refine xo_iload_n rfl rfl ?_
  refine d_if_lt rfl rfl e (fun _ e => ?_) (fun _ e => ?_)
  · exact t101_13 e
  · exact t101_4 e
def m101 (F : Nat) (p0 : Int32) : xm Int32 := b101_0 F p0
theorem t101 {sc : Nat × (Nat → Int32)} {F : Nat} {p0 : Int32} {h : xv_H} {r : Int32} {h' : xv_H} (e : m101 F p0 h = some (r, h')) : xr sc 101 [.int p0] h (fun v g => v = some (.int r) ∧ g = h') := by
  have e0 : xv_ent (xt_mx 101) [.int p0] = [some (.int p0)] := by simp [xv_ent, xv_sl, va_rf_cat, cat_int, cat_long, cat_ref, cat_null, va_rf_some, show xt_mx 101 = 1 from rfl]
  unfold xr
  rw [e0]
  exact t101_0 e
-- CellTree.isUp(I)Z
def b102_28 (F : Nat) (s0 : Int32) : xm Int32 := mb (bz s0) fun _ => mr s0
theorem t102_28 {sc : Nat × (Nat → Int32)} {F : Nat} {r : Int32} {h' : xv_H} {s0 : Int32} {d0 d1 : Option Value} {h : xv_H} (e : b102_28 F s0 h = some (r, h')) : xx sc 102 28 [d0, d1] [.int s0] h (fun v g => v = some (.int r) ∧ g = h') := by
  unfold b102_28 at e
  exact d_zret rfl e
def b102_17 (F : Nat) (l0 : Option Nat) (l1 : Int32) : xm Int32 := mb (nn l0) fun v1 => mb (gr 1 v1) fun v2 => mb (nn v2) fun v3 => mb (lr 105 v3 (l1 - (3 : Int32))) fun v4 => mb (nn v4) fun v5 => mb (gi 107 v5) fun v6 => b102_28 F v6
theorem t102_17 {sc : Nat × (Nat → Int32)} {F : Nat} {r : Int32} {h' : xv_H} {l0 : Option Nat} {l1 : Int32} {h : xv_H} (e : b102_17 F l0 l1 h = some (r, h')) : xx sc 102 17 [some (va_rf l0), some (.int l1)] [] h (fun v g => v = some (.int r) ∧ g = h') := by
  unfold b102_17 at e
  refine xo_aload_nQ (w := l0) rfl rfl ?_
  refine d_nn e (fun v1 g e1 => ?_)
  subst g
  replace e := e1
  clear e1
  refine d_getr rfl e (fun v2 e => ?_)
  refine xo_iload_n rfl rfl ?_
  refine xo_iconstV (x := 3) rfl (by decide) ?_
  refine xo_isub rfl ?_
  refine d_nn e (fun v3 g e1 => ?_)
  subst g
  replace e := e1
  clear e1
  refine d_aald rfl e (fun v4 e => ?_)
  refine d_nn e (fun v5 g e1 => ?_)
  subst g
  replace e := e1
  clear e1
  refine d_getz rfl e (fun v6 e => ?_)
  exact t102_28 e
def b102_5 (F : Nat) (l0 : Option Nat) (l1 : Int32) : xm Int32 := mb (nn l0) fun v1 => mb (gr 0 v1) fun v2 => mb (nn v2) fun v3 => mb (lr 104 v3 l1) fun v4 => mb (nn v4) fun v5 => mb (gi 304 v5) fun v6 => b102_28 F v6
theorem t102_5 {sc : Nat × (Nat → Int32)} {F : Nat} {r : Int32} {h' : xv_H} {l0 : Option Nat} {l1 : Int32} {h : xv_H} (e : b102_5 F l0 l1 h = some (r, h')) : xx sc 102 5 [some (va_rf l0), some (.int l1)] [] h (fun v g => v = some (.int r) ∧ g = h') := by
  unfold b102_5 at e
  refine xo_aload_nQ (w := l0) rfl rfl ?_
  refine d_nn e (fun v1 g e1 => ?_)
  subst g
  replace e := e1
  clear e1
  refine d_getr rfl e (fun v2 e => ?_)
  refine xo_iload_n rfl rfl ?_
  refine d_nn e (fun v3 g e1 => ?_)
  subst g
  replace e := e1
  clear e1
  refine d_aald rfl e (fun v4 e => ?_)
  refine d_nn e (fun v5 g e1 => ?_)
  subst g
  replace e := e1
  clear e1
  refine d_getz rfl e (fun v6 e => ?_)
  refine xo_goto rfl rfl ?_
  exact t102_28 e
def b102_0 (F : Nat) (l0 : Option Nat) (l1 : Int32) : xm Int32 := if (3 : Int32) ≤ l1 then b102_17 F l0 l1 else b102_5 F l0 l1
theorem t102_0 {sc : Nat × (Nat → Int32)} {F : Nat} {r : Int32} {h' : xv_H} {l0 : Option Nat} {l1 : Int32} {h : xv_H} (e : b102_0 F l0 l1 h = some (r, h')) : xx sc 102 0 [some (va_rf l0), some (.int l1)] [] h (fun v g => v = some (.int r) ∧ g = h') := by
  unfold b102_0 at e
  refine xo_iload_n rfl rfl ?_
  refine xo_iconstV (x := 3) rfl (by decide) ?_
  refine d_icmp_ge rfl rfl e (fun _ e => ?_) (fun _ e => ?_)
  · exact t102_17 e
  · exact t102_5 e
def m102 (F : Nat) (this : Nat) (p0 : Int32) : xm Int32 := b102_0 F (some this) p0
theorem t102 {sc : Nat × (Nat → Int32)} {F : Nat} {this : Nat} {p0 : Int32} {h : xv_H} {r : Int32} {h' : xv_H} (e : m102 F this p0 h = some (r, h')) : xr sc 102 [.ref this, .int p0] h (fun v g => v = some (.int r) ∧ g = h') := by
  have e0 : xv_ent (xt_mx 102) [.ref this, .int p0] = [some (va_rf (some this)), some (.int p0)] := by simp [xv_ent, xv_sl, va_rf_cat, cat_int, cat_long, cat_ref, cat_null, va_rf_some, show xt_mx 102 = 2 from rfl]
  unfold xr
  rw [e0]
  exact t102_0 e
-- CellTree$Client.goDown()V
def b103_39 (F : Nat) : xm Unit := mr ()
theorem t103_39 {sc : Nat × (Nat → Int32)} {F : Nat} {r : Unit} {h' : xv_H} {d0 d1 : Option Value} {h : xv_H} (e : b103_39 F h = some (r, h')) : xx sc 103 39 [d0, d1] [] h (fun v g => v = none ∧ g = h') := by
  unfold b103_39 at e
  exact d_ret rfl e
def b103_26 (k20 : Option Nat → Int32 → xm Unit) (F : Nat) (l0 : Option Nat) (l1 : Int32) : xm Unit := mb (nn l0) fun v1 => mb (gr 101 v1) fun v2 => mb (nn v2) fun v3 => mb (sr 108 v3 l1 none) fun _ => k20 (some v1) (l1 + (1 : Int32))
theorem t103_26 {sc : Nat × (Nat → Int32)} {F : Nat} {r : Unit} {h' : xv_H} {k20 : Option Nat → Int32 → xm Unit} (hk20 : ∀ (l0 : Option Nat) (l1 : Int32) (h : xv_H), k20 l0 l1 h = some (r, h') → xx sc 103 20 [some (va_rf l0), some (.int l1)] [] h (fun v g => v = none ∧ g = h')) {l0 : Option Nat} {l1 : Int32} {h : xv_H} (e : b103_26 k20 F l0 l1 h = some (r, h')) : xx sc 103 26 [some (va_rf l0), some (.int l1)] [] h (fun v g => v = none ∧ g = h') := by
  unfold b103_26 at e
  refine xo_aload_nQ (w := l0) rfl rfl ?_
  refine d_nn e (fun v1 g e1 => ?_)
  subst g
  replace e := e1
  clear e1
  refine d_getr rfl e (fun v2 e => ?_)
  refine xo_iload_n rfl rfl ?_
  refine xo_nullV rfl ?_
  refine d_nn e (fun v3 g e1 => ?_)
  subst g
  replace e := e1
  clear e1
  refine d_aast (w := none) rfl e (fun h e => ?_)
  refine xo_iincV (z := 1) rfl (by decide) rfl (Nat.le_of_ble_eq_true rfl) rfl ?_
  refine xo_goto rfl rfl ?_
  exact hk20 _ _ _ e
def b103_20 (F : Nat) : Nat → Option Nat → Int32 → xm Unit
  | 0, _, _ => fun _ => none
  | f + 1, l0, l1 => if (24 : Int32) ≤ l1 then b103_39 F else b103_26 (b103_20 F f) F l0 l1
theorem t103_20 {sc : Nat × (Nat → Int32)} {F : Nat} {r : Unit} {h' : xv_H} : ∀ (f : Nat) (l0 : Option Nat) (l1 : Int32) (h : xv_H), b103_20 F f l0 l1 h = some (r, h') → xx sc 103 20 [some (va_rf l0), some (.int l1)] [] h (fun v g => v = none ∧ g = h') := by
  intro f
  induction f with
  | zero => intro l0 l1 h e; cases e
  | succ f ih =>
    intro l0 l1 h e
    unfold b103_20 at e
    refine xo_iload_n rfl rfl ?_
    refine xo_bipushV (x := 24) rfl (by decide) ?_
    refine d_icmp_ge rfl rfl e (fun _ e => ?_) (fun _ e => ?_)
    · exact t103_39 e
    · exact t103_26 (fun a0 a1 h e => ih a0 a1 h e) e
def b103_0 (F : Nat) (l0 : Option Nat) : xm Unit := mb (nn l0) fun v1 => mb (pz 107 v1 (0 : Int32)) fun _ => mb (pr 111 v1 none) fun _ => mb (gr 102 v1) fun v2 => mb (nn v2) fun v3 => mb (pi_ 207 v3 (0 : Int32)) fun _ => b103_20 F F (some v1) (0 : Int32)
theorem t103_0 {sc : Nat × (Nat → Int32)} {F : Nat} {r : Unit} {h' : xv_H} {l0 : Option Nat} {d1 : Option Value} {h : xv_H} (e : b103_0 F l0 h = some (r, h')) : xx sc 103 0 [some (va_rf l0), d1] [] h (fun v g => v = none ∧ g = h') := by
  unfold b103_0 at e
  refine xo_aload_nQ (w := l0) rfl rfl ?_
  refine xo_iconstV (x := 0) rfl (by decide) ?_
  refine d_nn e (fun v1 g e1 => ?_)
  subst g
  replace e := e1
  clear e1
  refine d_putz rfl e (fun h e => ?_)
  refine xo_aload_nQ (w := (some v1)) rfl rfl ?_
  refine xo_nullV rfl ?_
  refine d_putr (w := none) rfl e (fun h e => ?_)
  refine xo_aload_nQ (w := (some v1)) rfl rfl ?_
  refine d_getr rfl e (fun v2 e => ?_)
  refine xo_iconstV (x := 0) rfl (by decide) ?_
  refine d_nn e (fun v3 g e1 => ?_)
  subst g
  replace e := e1
  clear e1
  refine d_puti rfl e (fun h e => ?_)
  refine xo_iconstV (x := 0) rfl (by decide) ?_
  refine xo_istore_n rfl (Nat.le_of_ble_eq_true rfl) rfl ?_
  exact t103_20 F _ _ _ e
def m103 (F : Nat) (this : Nat) : xm Unit := b103_0 F (some this)
theorem t103 {sc : Nat × (Nat → Int32)} {F : Nat} {this : Nat} {h : xv_H} {r : Unit} {h' : xv_H} (e : m103 F this h = some (r, h')) : xr sc 103 [.ref this] h (fun v g => v = none ∧ g = h') := by
  have e0 : xv_ent (xt_mx 103) [.ref this] = [some (va_rf (some this)), none] := by simp [xv_ent, xv_sl, va_rf_cat, cat_int, cat_long, cat_ref, cat_null, va_rf_some, show xt_mx 103 = 2 from rfl]
  unfold xr
  rw [e0]
  exact t103_0 e
-- CellTree.crash(I)Z
def b100_46 (F : Nat) : xm Int32 := mb (bz (1 : Int32)) fun _ => mr (1 : Int32)
theorem t100_46 {sc : Nat × (Nat → Int32)} {F : Nat} {r : Int32} {h' : xv_H} {d0 d1 : Option Value} {h : xv_H} (e : b100_46 F h = some (r, h')) : xx sc 100 46 [d0, d1] [] h (fun v g => v = some (.int r) ∧ g = h') := by
  unfold b100_46 at e
  refine xo_iconstV (x := 1) rfl (by decide) ?_
  exact d_zret rfl e
def b100_35 (F : Nat) (l0 : Option Nat) (l1 : Int32) : xm Int32 := mb (nn l0) fun v1 => mb (gr 1 v1) fun v2 => mb (nn v2) fun v3 => mb (lr 105 v3 (l1 - (3 : Int32))) fun v4 => mb (nn v4) fun v5 => mb (vc 1 v5) fun _ => mb (m103 F v5) fun _ => b100_46 F
theorem t100_35 {sc : Nat × (Nat → Int32)} {F : Nat} {r : Int32} {h' : xv_H} {l0 : Option Nat} {l1 : Int32} {h : xv_H} (e : b100_35 F l0 l1 h = some (r, h')) : xx sc 100 35 [some (va_rf l0), some (.int l1)] [] h (fun v g => v = some (.int r) ∧ g = h') := by
  unfold b100_35 at e
  refine xo_aload_nQ (w := l0) rfl rfl ?_
  refine d_nn e (fun v1 g e1 => ?_)
  subst g
  replace e := e1
  clear e1
  refine d_getr rfl e (fun v2 e => ?_)
  refine xo_iload_n rfl rfl ?_
  refine xo_iconstV (x := 3) rfl (by decide) ?_
  refine xo_isub rfl ?_
  refine d_nn e (fun v3 g e1 => ?_)
  subst g
  replace e := e1
  clear e1
  refine d_aald rfl e (fun v4 e => ?_)
  refine d_nn e (fun v5 g e1 => ?_)
  subst g
  replace e := e1
  clear e1
  refine d_virtual_v (av := []) (rest := []) rfl ⟨by decide, by decide⟩ rfl rfl (by simp [xv_fit, va_rf_cat, cat_int, cat_long, cat_ref, cat_null, show xt_mx 103 = 2 from rfl, show xt_lg 103 = [] from rfl]) (by simp [xv_room, va_rf_cat, cat_int, cat_long, cat_ref, cat_null]) (fun x0 h1 e1 => t103 e1) e (fun _ h e => ?_)
  exact t100_46 e
def b100_22 (F : Nat) (l0 : Option Nat) (l1 : Int32) : xm Int32 := mb (nn l0) fun v1 => mb (gr 0 v1) fun v2 => mb (nn v2) fun v3 => mb (lr 104 v3 l1) fun v4 => mb (nn v4) fun v5 => mb (pz 304 v5 (0 : Int32)) fun _ => b100_46 F
theorem t100_22 {sc : Nat × (Nat → Int32)} {F : Nat} {r : Int32} {h' : xv_H} {l0 : Option Nat} {l1 : Int32} {h : xv_H} (e : b100_22 F l0 l1 h = some (r, h')) : xx sc 100 22 [some (va_rf l0), some (.int l1)] [] h (fun v g => v = some (.int r) ∧ g = h') := by
  unfold b100_22 at e
  refine xo_aload_nQ (w := l0) rfl rfl ?_
  refine d_nn e (fun v1 g e1 => ?_)
  subst g
  replace e := e1
  clear e1
  refine d_getr rfl e (fun v2 e => ?_)
  refine xo_iload_n rfl rfl ?_
  refine d_nn e (fun v3 g e1 => ?_)
  subst g
  replace e := e1
  clear e1
  refine d_aald rfl e (fun v4 e => ?_)
  refine xo_iconstV (x := 0) rfl (by decide) ?_
  refine d_nn e (fun v5 g e1 => ?_)
  subst g
  replace e := e1
  clear e1
  refine d_putz rfl e (fun h e => ?_)
  refine xo_goto rfl rfl ?_
  exact t100_46 e
def b100_17 (F : Nat) (l0 : Option Nat) (l1 : Int32) : xm Int32 := if (3 : Int32) ≤ l1 then b100_35 F l0 l1 else b100_22 F l0 l1
theorem t100_17 {sc : Nat × (Nat → Int32)} {F : Nat} {r : Int32} {h' : xv_H} {l0 : Option Nat} {l1 : Int32} {h : xv_H} (e : b100_17 F l0 l1 h = some (r, h')) : xx sc 100 17 [some (va_rf l0), some (.int l1)] [] h (fun v g => v = some (.int r) ∧ g = h') := by
  unfold b100_17 at e
  refine xo_iload_n rfl rfl ?_
  refine xo_iconstV (x := 3) rfl (by decide) ?_
  refine d_icmp_ge rfl rfl e (fun _ e => ?_) (fun _ e => ?_)
  · exact t100_35 e
  · exact t100_22 e
def b100_15 (F : Nat) : xm Int32 := mb (bz (0 : Int32)) fun _ => mr (0 : Int32)
theorem t100_15 {sc : Nat × (Nat → Int32)} {F : Nat} {r : Int32} {h' : xv_H} {d0 d1 : Option Value} {h : xv_H} (e : b100_15 F h = some (r, h')) : xx sc 100 15 [d0, d1] [] h (fun v g => v = some (.int r) ∧ g = h') := by
  unfold b100_15 at e
  refine xo_iconstV (x := 0) rfl (by decide) ?_
  exact d_zret rfl e
def b100_7 (F : Nat) (l0 : Option Nat) (l1 : Int32) : xm Int32 := mb (nn l0) fun v1 => mb (vc 0 v1) fun _ => mb (m102 F v1 l1) fun v2 => if ¬ v2 = 0 then b100_17 F (some v1) l1 else b100_15 F
theorem t100_7 {sc : Nat × (Nat → Int32)} {F : Nat} {r : Int32} {h' : xv_H} {l0 : Option Nat} {l1 : Int32} {h : xv_H} (e : b100_7 F l0 l1 h = some (r, h')) : xx sc 100 7 [some (va_rf l0), some (.int l1)] [] h (fun v g => v = some (.int r) ∧ g = h') := by
  unfold b100_7 at e
  refine xo_aload_nQ (w := l0) rfl rfl ?_
  refine xo_iload_n rfl rfl ?_
  refine d_nn e (fun v1 g e1 => ?_)
  subst g
  replace e := e1
  clear e1
  refine d_virtual_i (av := [.int l1]) (rest := []) rfl ⟨by decide, by decide⟩ rfl rfl (by simp [xv_fit, va_rf_cat, cat_int, cat_long, cat_ref, cat_null, show xt_mx 102 = 2 from rfl, show xt_lg 102 = [] from rfl]) (by simp [xv_room, va_rf_cat, cat_int, cat_long, cat_ref, cat_null]) (fun x0 h1 e1 => t102 e1) e (fun v2 h e => ?_)
  refine d_if_ne rfl rfl e (fun _ e => ?_) (fun _ e => ?_)
  · exact t100_17 e
  · exact t100_15 e
def b100_0 (F : Nat) (l0 : Option Nat) (l1 : Int32) : xm Int32 := mb (m101 F l1) fun v1 => if v1 = 0 then b100_15 F else b100_7 F l0 l1
theorem t100_0 {sc : Nat × (Nat → Int32)} {F : Nat} {r : Int32} {h' : xv_H} {l0 : Option Nat} {l1 : Int32} {h : xv_H} (e : b100_0 F l0 l1 h = some (r, h')) : xx sc 100 0 [some (va_rf l0), some (.int l1)] [] h (fun v g => v = some (.int r) ∧ g = h') := by
  unfold b100_0 at e
  refine xo_iload_n rfl rfl ?_
  refine d_static_i (av := [.int l1]) (rest := []) rfl ⟨by decide, by decide, by decide⟩ rfl rfl (by simp [xv_fit, va_rf_cat, cat_int, cat_long, cat_ref, cat_null, show xt_mx 101 = 1 from rfl, show xt_lg 101 = [] from rfl]) (by simp [xv_room, va_rf_cat, cat_int, cat_long, cat_ref, cat_null]) (fun x0 h1 e1 => t101 e1) e (fun v1 h e => ?_)
  refine d_if_eq rfl rfl e (fun _ e => ?_) (fun _ e => ?_)
  · exact t100_15 e
  · exact t100_7 e
def m100 (F : Nat) (this : Nat) (p0 : Int32) : xm Int32 := b100_0 F (some this) p0
theorem t100 {sc : Nat × (Nat → Int32)} {F : Nat} {this : Nat} {p0 : Int32} {h : xv_H} {r : Int32} {h' : xv_H} (e : m100 F this p0 h = some (r, h')) : xr sc 100 [.ref this, .int p0] h (fun v g => v = some (.int r) ∧ g = h') := by
  have e0 : xv_ent (xt_mx 100) [.ref this, .int p0] = [some (va_rf (some this)), some (.int p0)] := by simp [xv_ent, xv_sl, va_rf_cat, cat_int, cat_long, cat_ref, cat_null, va_rf_some, show xt_mx 100 = 2 from rfl]
  unfold xr
  rw [e0]
  exact t100_0 e
-- CellTree.restart(I)Z
def b104_47 (F : Nat) : xm Int32 := mb (bz (1 : Int32)) fun _ => mr (1 : Int32)
theorem t104_47 {sc : Nat × (Nat → Int32)} {F : Nat} {r : Int32} {h' : xv_H} {d0 d1 : Option Value} {h : xv_H} (e : b104_47 F h = some (r, h')) : xx sc 104 47 [d0, d1] [] h (fun v g => v = some (.int r) ∧ g = h') := by
  unfold b104_47 at e
  refine xo_iconstV (x := 1) rfl (by decide) ?_
  exact d_zret rfl e
def b104_35 (F : Nat) (l0 : Option Nat) (l1 : Int32) : xm Int32 := mb (nn l0) fun v1 => mb (gr 1 v1) fun v2 => mb (nn v2) fun v3 => mb (lr 105 v3 (l1 - (3 : Int32))) fun v4 => mb (nn v4) fun v5 => mb (pz 107 v5 (1 : Int32)) fun _ => b104_47 F
theorem t104_35 {sc : Nat × (Nat → Int32)} {F : Nat} {r : Int32} {h' : xv_H} {l0 : Option Nat} {l1 : Int32} {h : xv_H} (e : b104_35 F l0 l1 h = some (r, h')) : xx sc 104 35 [some (va_rf l0), some (.int l1)] [] h (fun v g => v = some (.int r) ∧ g = h') := by
  unfold b104_35 at e
  refine xo_aload_nQ (w := l0) rfl rfl ?_
  refine d_nn e (fun v1 g e1 => ?_)
  subst g
  replace e := e1
  clear e1
  refine d_getr rfl e (fun v2 e => ?_)
  refine xo_iload_n rfl rfl ?_
  refine xo_iconstV (x := 3) rfl (by decide) ?_
  refine xo_isub rfl ?_
  refine d_nn e (fun v3 g e1 => ?_)
  subst g
  replace e := e1
  clear e1
  refine d_aald rfl e (fun v4 e => ?_)
  refine xo_iconstV (x := 1) rfl (by decide) ?_
  refine d_nn e (fun v5 g e1 => ?_)
  subst g
  replace e := e1
  clear e1
  refine d_putz rfl e (fun h e => ?_)
  exact t104_47 e
def b104_22 (F : Nat) (l0 : Option Nat) (l1 : Int32) : xm Int32 := mb (nn l0) fun v1 => mb (gr 0 v1) fun v2 => mb (nn v2) fun v3 => mb (lr 104 v3 l1) fun v4 => mb (nn v4) fun v5 => mb (pz 304 v5 (1 : Int32)) fun _ => b104_47 F
theorem t104_22 {sc : Nat × (Nat → Int32)} {F : Nat} {r : Int32} {h' : xv_H} {l0 : Option Nat} {l1 : Int32} {h : xv_H} (e : b104_22 F l0 l1 h = some (r, h')) : xx sc 104 22 [some (va_rf l0), some (.int l1)] [] h (fun v g => v = some (.int r) ∧ g = h') := by
  unfold b104_22 at e
  refine xo_aload_nQ (w := l0) rfl rfl ?_
  refine d_nn e (fun v1 g e1 => ?_)
  subst g
  replace e := e1
  clear e1
  refine d_getr rfl e (fun v2 e => ?_)
  refine xo_iload_n rfl rfl ?_
  refine d_nn e (fun v3 g e1 => ?_)
  subst g
  replace e := e1
  clear e1
  refine d_aald rfl e (fun v4 e => ?_)
  refine xo_iconstV (x := 1) rfl (by decide) ?_
  refine d_nn e (fun v5 g e1 => ?_)
  subst g
  replace e := e1
  clear e1
  refine d_putz rfl e (fun h e => ?_)
  refine xo_goto rfl rfl ?_
  exact t104_47 e
def b104_17 (F : Nat) (l0 : Option Nat) (l1 : Int32) : xm Int32 := if (3 : Int32) ≤ l1 then b104_35 F l0 l1 else b104_22 F l0 l1
theorem t104_17 {sc : Nat × (Nat → Int32)} {F : Nat} {r : Int32} {h' : xv_H} {l0 : Option Nat} {l1 : Int32} {h : xv_H} (e : b104_17 F l0 l1 h = some (r, h')) : xx sc 104 17 [some (va_rf l0), some (.int l1)] [] h (fun v g => v = some (.int r) ∧ g = h') := by
  unfold b104_17 at e
  refine xo_iload_n rfl rfl ?_
  refine xo_iconstV (x := 3) rfl (by decide) ?_
  refine d_icmp_ge rfl rfl e (fun _ e => ?_) (fun _ e => ?_)
  · exact t104_35 e
  · exact t104_22 e
def b104_15 (F : Nat) : xm Int32 := mb (bz (0 : Int32)) fun _ => mr (0 : Int32)
theorem t104_15 {sc : Nat × (Nat → Int32)} {F : Nat} {r : Int32} {h' : xv_H} {d0 d1 : Option Value} {h : xv_H} (e : b104_15 F h = some (r, h')) : xx sc 104 15 [d0, d1] [] h (fun v g => v = some (.int r) ∧ g = h') := by
  unfold b104_15 at e
  refine xo_iconstV (x := 0) rfl (by decide) ?_
  exact d_zret rfl e
def b104_7 (F : Nat) (l0 : Option Nat) (l1 : Int32) : xm Int32 := mb (nn l0) fun v1 => mb (vc 0 v1) fun _ => mb (m102 F v1 l1) fun v2 => if v2 = 0 then b104_17 F (some v1) l1 else b104_15 F
theorem t104_7 {sc : Nat × (Nat → Int32)} {F : Nat} {r : Int32} {h' : xv_H} {l0 : Option Nat} {l1 : Int32} {h : xv_H} (e : b104_7 F l0 l1 h = some (r, h')) : xx sc 104 7 [some (va_rf l0), some (.int l1)] [] h (fun v g => v = some (.int r) ∧ g = h') := by
  unfold b104_7 at e
  refine xo_aload_nQ (w := l0) rfl rfl ?_
  refine xo_iload_n rfl rfl ?_
  refine d_nn e (fun v1 g e1 => ?_)
  subst g
  replace e := e1
  clear e1
  refine d_virtual_i (av := [.int l1]) (rest := []) rfl ⟨by decide, by decide⟩ rfl rfl (by simp [xv_fit, va_rf_cat, cat_int, cat_long, cat_ref, cat_null, show xt_mx 102 = 2 from rfl, show xt_lg 102 = [] from rfl]) (by simp [xv_room, va_rf_cat, cat_int, cat_long, cat_ref, cat_null]) (fun x0 h1 e1 => t102 e1) e (fun v2 h e => ?_)
  refine d_if_eq rfl rfl e (fun _ e => ?_) (fun _ e => ?_)
  · exact t104_17 e
  · exact t104_15 e
def b104_0 (F : Nat) (l0 : Option Nat) (l1 : Int32) : xm Int32 := mb (m101 F l1) fun v1 => if v1 = 0 then b104_15 F else b104_7 F l0 l1
theorem t104_0 {sc : Nat × (Nat → Int32)} {F : Nat} {r : Int32} {h' : xv_H} {l0 : Option Nat} {l1 : Int32} {h : xv_H} (e : b104_0 F l0 l1 h = some (r, h')) : xx sc 104 0 [some (va_rf l0), some (.int l1)] [] h (fun v g => v = some (.int r) ∧ g = h') := by
  unfold b104_0 at e
  refine xo_iload_n rfl rfl ?_
  refine d_static_i (av := [.int l1]) (rest := []) rfl ⟨by decide, by decide, by decide⟩ rfl rfl (by simp [xv_fit, va_rf_cat, cat_int, cat_long, cat_ref, cat_null, show xt_mx 101 = 1 from rfl, show xt_lg 101 = [] from rfl]) (by simp [xv_room, va_rf_cat, cat_int, cat_long, cat_ref, cat_null]) (fun x0 h1 e1 => t101 e1) e (fun v1 h e => ?_)
  refine d_if_eq rfl rfl e (fun _ e => ?_) (fun _ e => ?_)
  · exact t104_15 e
  · exact t104_7 e
def m104 (F : Nat) (this : Nat) (p0 : Int32) : xm Int32 := b104_0 F (some this) p0
theorem t104 {sc : Nat × (Nat → Int32)} {F : Nat} {this : Nat} {p0 : Int32} {h : xv_H} {r : Int32} {h' : xv_H} (e : m104 F this p0 h = some (r, h')) : xr sc 104 [.ref this, .int p0] h (fun v g => v = some (.int r) ∧ g = h') := by
  have e0 : xv_ent (xt_mx 104) [.ref this, .int p0] = [some (va_rf (some this)), some (.int p0)] := by simp [xv_ent, xv_sl, va_rf_cat, cat_int, cat_long, cat_ref, cat_null, va_rf_some, show xt_mx 104 = 2 from rfl]
  unfold xr
  rw [e0]
  exact t104_0 e
-- CellTree.isMemory(I)Z
def b106_14 (F : Nat) (s0 : Int32) : xm Int32 := mb (bz s0) fun _ => mr s0
theorem t106_14 {sc : Nat × (Nat → Int32)} {F : Nat} {r : Int32} {h' : xv_H} {s0 : Int32} {d0 : Option Value} {h : xv_H} (e : b106_14 F s0 h = some (r, h')) : xx sc 106 14 [d0] [.int s0] h (fun v g => v = some (.int r) ∧ g = h') := by
  unfold b106_14 at e
  exact d_zret rfl e
def b106_13 (F : Nat) : xm Int32 := b106_14 F (0 : Int32)
theorem t106_13 {sc : Nat × (Nat → Int32)} {F : Nat} {r : Int32} {h' : xv_H} {d0 : Option Value} {h : xv_H} (e : b106_13 F h = some (r, h')) : xx sc 106 13 [d0] [] h (fun v g => v = some (.int r) ∧ g = h') := by
  unfold b106_13 at e
  refine xo_iconstV (x := 0) rfl (by decide) ?_
  exact t106_14 e
def b106_9 (F : Nat) : xm Int32 := b106_14 F (1 : Int32)
theorem t106_9 {sc : Nat × (Nat → Int32)} {F : Nat} {r : Int32} {h' : xv_H} {d0 : Option Value} {h : xv_H} (e : b106_9 F h = some (r, h')) : xx sc 106 9 [d0] [] h (fun v g => v = some (.int r) ∧ g = h') := by
  unfold b106_9 at e
  refine xo_iconstV (x := 1) rfl (by decide) ?_
  refine xo_goto rfl rfl ?_
  exact t106_14 e
def b106_4 (F : Nat) (l0 : Int32) : xm Int32 := if (3 : Int32) ≤ l0 then b106_13 F else b106_9 F
theorem t106_4 {sc : Nat × (Nat → Int32)} {F : Nat} {r : Int32} {h' : xv_H} {l0 : Int32} {h : xv_H} (e : b106_4 F l0 h = some (r, h')) : xx sc 106 4 [some (.int l0)] [] h (fun v g => v = some (.int r) ∧ g = h') := by
  unfold b106_4 at e
  refine xo_iload_n rfl rfl ?_
  refine xo_iconstV (x := 3) rfl (by decide) ?_
  refine d_icmp_ge rfl rfl e (fun _ e => ?_) (fun _ e => ?_)
  · exact t106_13 e
  · exact t106_9 e
def b106_0 (F : Nat) (l0 : Int32) : xm Int32 := if l0 < 0 then b106_13 F else b106_4 F l0
theorem t106_0 {sc : Nat × (Nat → Int32)} {F : Nat} {r : Int32} {h' : xv_H} {l0 : Int32} {h : xv_H} (e : b106_0 F l0 h = some (r, h')) : xx sc 106 0 [some (.int l0)] [] h (fun v g => v = some (.int r) ∧ g = h') := by
  unfold b106_0 at e
  refine xo_iload_n rfl rfl ?_
  refine d_if_lt rfl rfl e (fun _ e => ?_) (fun _ e => ?_)
  · exact t106_13 e
  · exact t106_4 e
def m106 (F : Nat) (p0 : Int32) : xm Int32 := b106_0 F p0
theorem t106 {sc : Nat × (Nat → Int32)} {F : Nat} {p0 : Int32} {h : xv_H} {r : Int32} {h' : xv_H} (e : m106 F p0 h = some (r, h')) : xr sc 106 [.int p0] h (fun v g => v = some (.int r) ∧ g = h') := by
  have e0 : xv_ent (xt_mx 106) [.int p0] = [some (.int p0)] := by simp [xv_ent, xv_sl, va_rf_cat, cat_int, cat_long, cat_ref, cat_null, va_rf_some, show xt_mx 106 = 1 from rfl]
  unfold xr
  rw [e0]
  exact t106_0 e
-- CellTree$MemoryNode.lowestInDoubt(I)I
def b107_25 (F : Nat) : xm Int32 := mr (0 : Int32)
theorem t107_25 {sc : Nat × (Nat → Int32)} {F : Nat} {r : Int32} {h' : xv_H} {d0 d1 d2 : Option Value} {h : xv_H} (e : b107_25 F h = some (r, h')) : xx sc 107 25 [d0, d1, d2] [] h (fun v g => v = some (.int r) ∧ g = h') := by
  unfold b107_25 at e
  refine xo_iconstV (x := 0) rfl (by decide) ?_
  exact d_iret rfl e
def b107_19 (k2 : Option Nat → Int32 → Int32 → xm Int32) (F : Nat) (l0 : Option Nat) (l1 : Int32) (l2 : Int32) : xm Int32 := k2 l0 l1 (l2 + (1 : Int32))
theorem t107_19 {sc : Nat × (Nat → Int32)} {F : Nat} {r : Int32} {h' : xv_H} {k2 : Option Nat → Int32 → Int32 → xm Int32} (hk2 : ∀ (l0 : Option Nat) (l1 : Int32) (l2 : Int32) (h : xv_H), k2 l0 l1 l2 h = some (r, h') → xx sc 107 2 [some (va_rf l0), some (.int l1), some (.int l2)] [] h (fun v g => v = some (.int r) ∧ g = h')) {l0 : Option Nat} {l1 : Int32} {l2 : Int32} {h : xv_H} (e : b107_19 k2 F l0 l1 l2 h = some (r, h')) : xx sc 107 19 [some (va_rf l0), some (.int l1), some (.int l2)] [] h (fun v g => v = some (.int r) ∧ g = h') := by
  unfold b107_19 at e
  refine xo_iincV (z := 1) rfl (by decide) rfl (Nat.le_of_ble_eq_true rfl) rfl ?_
  refine xo_goto rfl rfl ?_
  exact hk2 _ _ _ _ e
def b107_17 (k2 : Option Nat → Int32 → Int32 → xm Int32) (F : Nat) (l2 : Int32) : xm Int32 := mr l2
theorem t107_17 {sc : Nat × (Nat → Int32)} {F : Nat} {r : Int32} {h' : xv_H} {k2 : Option Nat → Int32 → Int32 → xm Int32} (hk2 : ∀ (l0 : Option Nat) (l1 : Int32) (l2 : Int32) (h : xv_H), k2 l0 l1 l2 h = some (r, h') → xx sc 107 2 [some (va_rf l0), some (.int l1), some (.int l2)] [] h (fun v g => v = some (.int r) ∧ g = h')) {l2 : Int32} {d0 d1 : Option Value} {h : xv_H} (e : b107_17 k2 F l2 h = some (r, h')) : xx sc 107 17 [d0, d1, some (.int l2)] [] h (fun v g => v = some (.int r) ∧ g = h') := by
  unfold b107_17 at e
  refine xo_iload_n rfl rfl ?_
  exact d_iret rfl e
def b107_7 (k2 : Option Nat → Int32 → Int32 → xm Int32) (F : Nat) (l0 : Option Nat) (l1 : Int32) (l2 : Int32) : xm Int32 := mb (nn l0) fun v1 => mb (gr 303 v1) fun v2 => mb (nn v2) fun v3 => mb (lb v3 l2) fun v4 => if ¬ v4 = (1 : Int32) then b107_19 k2 F (some v1) l1 l2 else b107_17 k2 F l2
theorem t107_7 {sc : Nat × (Nat → Int32)} {F : Nat} {r : Int32} {h' : xv_H} {k2 : Option Nat → Int32 → Int32 → xm Int32} (hk2 : ∀ (l0 : Option Nat) (l1 : Int32) (l2 : Int32) (h : xv_H), k2 l0 l1 l2 h = some (r, h') → xx sc 107 2 [some (va_rf l0), some (.int l1), some (.int l2)] [] h (fun v g => v = some (.int r) ∧ g = h')) {l0 : Option Nat} {l1 : Int32} {l2 : Int32} {h : xv_H} (e : b107_7 k2 F l0 l1 l2 h = some (r, h')) : xx sc 107 7 [some (va_rf l0), some (.int l1), some (.int l2)] [] h (fun v g => v = some (.int r) ∧ g = h') := by
  unfold b107_7 at e
  refine xo_aload_nQ (w := l0) rfl rfl ?_
  refine d_nn e (fun v1 g e1 => ?_)
  subst g
  replace e := e1
  clear e1
  refine d_getr rfl e (fun v2 e => ?_)
  refine xo_iload_n rfl rfl ?_
  refine d_nn e (fun v3 g e1 => ?_)
  subst g
  replace e := e1
  clear e1
  refine d_bald rfl e (fun v4 e => ?_)
  refine xo_iconstV (x := 1) rfl (by decide) ?_
  refine d_icmp_ne rfl rfl e (fun _ e => ?_) (fun _ e => ?_)
  · exact t107_19 hk2 e
  · exact t107_17 hk2 e
def b107_2 (F : Nat) : Nat → Option Nat → Int32 → Int32 → xm Int32
  | 0, _, _, _ => fun _ => none
  | f + 1, l0, l1, l2 => if l1 < l2 then b107_25 F else b107_7 (b107_2 F f) F l0 l1 l2
theorem t107_2 {sc : Nat × (Nat → Int32)} {F : Nat} {r : Int32} {h' : xv_H} : ∀ (f : Nat) (l0 : Option Nat) (l1 : Int32) (l2 : Int32) (h : xv_H), b107_2 F f l0 l1 l2 h = some (r, h') → xx sc 107 2 [some (va_rf l0), some (.int l1), some (.int l2)] [] h (fun v g => v = some (.int r) ∧ g = h') := by
  intro f
  induction f with
  | zero => intro l0 l1 l2 h e; cases e
  | succ f ih =>
    intro l0 l1 l2 h e
    unfold b107_2 at e
    refine xo_iload_n rfl rfl ?_
    refine xo_iload_n rfl rfl ?_
    refine d_icmp_gt rfl rfl e (fun _ e => ?_) (fun _ e => ?_)
    · exact t107_25 e
    · exact t107_7 (fun a0 a1 a2 h e => ih a0 a1 a2 h e) e
def b107_0 (F : Nat) (l0 : Option Nat) (l1 : Int32) : xm Int32 := b107_2 F F l0 l1 (1 : Int32)
theorem t107_0 {sc : Nat × (Nat → Int32)} {F : Nat} {r : Int32} {h' : xv_H} {l0 : Option Nat} {l1 : Int32} {d2 : Option Value} {h : xv_H} (e : b107_0 F l0 l1 h = some (r, h')) : xx sc 107 0 [some (va_rf l0), some (.int l1), d2] [] h (fun v g => v = some (.int r) ∧ g = h') := by
  unfold b107_0 at e
  refine xo_iconstV (x := 1) rfl (by decide) ?_
  refine xo_istore_n rfl (Nat.le_of_ble_eq_true rfl) rfl ?_
  exact t107_2 F _ _ _ _ e
def m107 (F : Nat) (this : Nat) (p0 : Int32) : xm Int32 := b107_0 F (some this) p0
theorem t107 {sc : Nat × (Nat → Int32)} {F : Nat} {this : Nat} {p0 : Int32} {h : xv_H} {r : Int32} {h' : xv_H} (e : m107 F this p0 h = some (r, h')) : xr sc 107 [.ref this, .int p0] h (fun v g => v = some (.int r) ∧ g = h') := by
  have e0 : xv_ent (xt_mx 107) [.ref this, .int p0] = [some (va_rf (some this)), some (.int p0), none] := by simp [xv_ent, xv_sl, va_rf_cat, cat_int, cat_long, cat_ref, cat_null, va_rf_some, show xt_mx 107 = 3 from rfl]
  unfold xr
  rw [e0]
  exact t107_0 e
-- CellTree.areParticipantsUp(LCellTree$Transaction;)Z
def b108_36 (F : Nat) : xm Int32 := mb (bz (1 : Int32)) fun _ => mr (1 : Int32)
theorem t108_36 {sc : Nat × (Nat → Int32)} {F : Nat} {r : Int32} {h' : xv_H} {d0 d1 d2 : Option Value} {h : xv_H} (e : b108_36 F h = some (r, h')) : xx sc 108 36 [d0, d1, d2] [] h (fun v g => v = some (.int r) ∧ g = h') := by
  unfold b108_36 at e
  refine xo_iconstV (x := 1) rfl (by decide) ?_
  exact d_zret rfl e
def b108_30 (k2 : Option Nat → Option Nat → Int32 → xm Int32) (F : Nat) (l0 : Option Nat) (l1 : Option Nat) (l2 : Int32) : xm Int32 := k2 l0 l1 (l2 + (1 : Int32))
theorem t108_30 {sc : Nat × (Nat → Int32)} {F : Nat} {r : Int32} {h' : xv_H} {k2 : Option Nat → Option Nat → Int32 → xm Int32} (hk2 : ∀ (l0 : Option Nat) (l1 : Option Nat) (l2 : Int32) (h : xv_H), k2 l0 l1 l2 h = some (r, h') → xx sc 108 2 [some (va_rf l0), some (va_rf l1), some (.int l2)] [] h (fun v g => v = some (.int r) ∧ g = h')) {l0 : Option Nat} {l1 : Option Nat} {l2 : Int32} {h : xv_H} (e : b108_30 k2 F l0 l1 l2 h = some (r, h')) : xx sc 108 30 [some (va_rf l0), some (va_rf l1), some (.int l2)] [] h (fun v g => v = some (.int r) ∧ g = h') := by
  unfold b108_30 at e
  refine xo_iincV (z := 1) rfl (by decide) rfl (Nat.le_of_ble_eq_true rfl) rfl ?_
  refine xo_goto rfl rfl ?_
  exact hk2 _ _ _ _ e
def b108_28 (k2 : Option Nat → Option Nat → Int32 → xm Int32) (F : Nat) : xm Int32 := mb (bz (0 : Int32)) fun _ => mr (0 : Int32)
theorem t108_28 {sc : Nat × (Nat → Int32)} {F : Nat} {r : Int32} {h' : xv_H} {k2 : Option Nat → Option Nat → Int32 → xm Int32} (hk2 : ∀ (l0 : Option Nat) (l1 : Option Nat) (l2 : Int32) (h : xv_H), k2 l0 l1 l2 h = some (r, h') → xx sc 108 2 [some (va_rf l0), some (va_rf l1), some (.int l2)] [] h (fun v g => v = some (.int r) ∧ g = h')) {d0 d1 d2 : Option Value} {h : xv_H} (e : b108_28 k2 F h = some (r, h')) : xx sc 108 28 [d0, d1, d2] [] h (fun v g => v = some (.int r) ∧ g = h') := by
  unfold b108_28 at e
  refine xo_iconstV (x := 0) rfl (by decide) ?_
  exact d_zret rfl e
def b108_16 (k2 : Option Nat → Option Nat → Int32 → xm Int32) (F : Nat) (l0 : Option Nat) (l1 : Option Nat) (l2 : Int32) : xm Int32 := mb (nn l0) fun v1 => mb (gr 0 v1) fun v2 => mb (nn v2) fun v3 => mb (lr 104 v3 l2) fun v4 => mb (nn v4) fun v5 => mb (gi 304 v5) fun v6 => if ¬ v6 = 0 then b108_30 k2 F (some v1) l1 l2 else b108_28 k2 F
theorem t108_16 {sc : Nat × (Nat → Int32)} {F : Nat} {r : Int32} {h' : xv_H} {k2 : Option Nat → Option Nat → Int32 → xm Int32} (hk2 : ∀ (l0 : Option Nat) (l1 : Option Nat) (l2 : Int32) (h : xv_H), k2 l0 l1 l2 h = some (r, h') → xx sc 108 2 [some (va_rf l0), some (va_rf l1), some (.int l2)] [] h (fun v g => v = some (.int r) ∧ g = h')) {l0 : Option Nat} {l1 : Option Nat} {l2 : Int32} {h : xv_H} (e : b108_16 k2 F l0 l1 l2 h = some (r, h')) : xx sc 108 16 [some (va_rf l0), some (va_rf l1), some (.int l2)] [] h (fun v g => v = some (.int r) ∧ g = h') := by
  unfold b108_16 at e
  refine xo_aload_nQ (w := l0) rfl rfl ?_
  refine d_nn e (fun v1 g e1 => ?_)
  subst g
  replace e := e1
  clear e1
  refine d_getr rfl e (fun v2 e => ?_)
  refine xo_iload_n rfl rfl ?_
  refine d_nn e (fun v3 g e1 => ?_)
  subst g
  replace e := e1
  clear e1
  refine d_aald rfl e (fun v4 e => ?_)
  refine d_nn e (fun v5 g e1 => ?_)
  subst g
  replace e := e1
  clear e1
  refine d_getz rfl e (fun v6 e => ?_)
  refine d_if_ne rfl rfl e (fun _ e => ?_) (fun _ e => ?_)
  · exact t108_30 hk2 e
  · exact t108_28 hk2 e
def b108_7 (k2 : Option Nat → Option Nat → Int32 → xm Int32) (F : Nat) (l0 : Option Nat) (l1 : Option Nat) (l2 : Int32) : xm Int32 := mb (nn l1) fun v1 => mb (gr 402 v1) fun v2 => mb (nn v2) fun v3 => mb (lb v3 l2) fun v4 => if v4 = 0 then b108_30 k2 F l0 (some v1) l2 else b108_16 k2 F l0 (some v1) l2
theorem t108_7 {sc : Nat × (Nat → Int32)} {F : Nat} {r : Int32} {h' : xv_H} {k2 : Option Nat → Option Nat → Int32 → xm Int32} (hk2 : ∀ (l0 : Option Nat) (l1 : Option Nat) (l2 : Int32) (h : xv_H), k2 l0 l1 l2 h = some (r, h') → xx sc 108 2 [some (va_rf l0), some (va_rf l1), some (.int l2)] [] h (fun v g => v = some (.int r) ∧ g = h')) {l0 : Option Nat} {l1 : Option Nat} {l2 : Int32} {h : xv_H} (e : b108_7 k2 F l0 l1 l2 h = some (r, h')) : xx sc 108 7 [some (va_rf l0), some (va_rf l1), some (.int l2)] [] h (fun v g => v = some (.int r) ∧ g = h') := by
  unfold b108_7 at e
  refine xo_aload_nQ (w := l1) rfl rfl ?_
  refine d_nn e (fun v1 g e1 => ?_)
  subst g
  replace e := e1
  clear e1
  refine d_getr rfl e (fun v2 e => ?_)
  refine xo_iload_n rfl rfl ?_
  refine d_nn e (fun v3 g e1 => ?_)
  subst g
  replace e := e1
  clear e1
  refine d_bald rfl e (fun v4 e => ?_)
  refine d_if_eq rfl rfl e (fun _ e => ?_) (fun _ e => ?_)
  · exact t108_30 hk2 e
  · exact t108_16 hk2 e
def b108_2 (F : Nat) : Nat → Option Nat → Option Nat → Int32 → xm Int32
  | 0, _, _, _ => fun _ => none
  | f + 1, l0, l1, l2 => if (3 : Int32) ≤ l2 then b108_36 F else b108_7 (b108_2 F f) F l0 l1 l2
theorem t108_2 {sc : Nat × (Nat → Int32)} {F : Nat} {r : Int32} {h' : xv_H} : ∀ (f : Nat) (l0 : Option Nat) (l1 : Option Nat) (l2 : Int32) (h : xv_H), b108_2 F f l0 l1 l2 h = some (r, h') → xx sc 108 2 [some (va_rf l0), some (va_rf l1), some (.int l2)] [] h (fun v g => v = some (.int r) ∧ g = h') := by
  intro f
  induction f with
  | zero => intro l0 l1 l2 h e; cases e
  | succ f ih =>
    intro l0 l1 l2 h e
    unfold b108_2 at e
    refine xo_iload_n rfl rfl ?_
    refine xo_iconstV (x := 3) rfl (by decide) ?_
    refine d_icmp_ge rfl rfl e (fun _ e => ?_) (fun _ e => ?_)
    · exact t108_36 e
    · exact t108_7 (fun a0 a1 a2 h e => ih a0 a1 a2 h e) e
def b108_0 (F : Nat) (l0 : Option Nat) (l1 : Option Nat) : xm Int32 := b108_2 F F l0 l1 (0 : Int32)
theorem t108_0 {sc : Nat × (Nat → Int32)} {F : Nat} {r : Int32} {h' : xv_H} {l0 : Option Nat} {l1 : Option Nat} {d2 : Option Value} {h : xv_H} (e : b108_0 F l0 l1 h = some (r, h')) : xx sc 108 0 [some (va_rf l0), some (va_rf l1), d2] [] h (fun v g => v = some (.int r) ∧ g = h') := by
  unfold b108_0 at e
  refine xo_iconstV (x := 0) rfl (by decide) ?_
  refine xo_istore_n rfl (Nat.le_of_ble_eq_true rfl) rfl ?_
  exact t108_2 F _ _ _ _ e
def m108 (F : Nat) (this : Nat) (p0 : Option Nat) : xm Int32 := b108_0 F (some this) p0
theorem t108 {sc : Nat × (Nat → Int32)} {F : Nat} {this : Nat} {p0 : Option Nat} {h : xv_H} {r : Int32} {h' : xv_H} (e : m108 F this p0 h = some (r, h')) : xr sc 108 [.ref this, va_rf p0] h (fun v g => v = some (.int r) ∧ g = h') := by
  have e0 : xv_ent (xt_mx 108) [.ref this, va_rf p0] = [some (va_rf (some this)), some (va_rf p0), none] := by simp [xv_ent, xv_sl, va_rf_cat, cat_int, cat_long, cat_ref, cat_null, va_rf_some, show xt_mx 108 = 3 from rfl]
  unfold xr
  rw [e0]
  exact t108_0 e
-- CellTree.isToCommit(LCellTree$Transaction;)Z
def b110_59 (F : Nat) (l2 : Int32) : xm Int32 := mb (bz l2) fun _ => mr l2
theorem t110_59 {sc : Nat × (Nat → Int32)} {F : Nat} {r : Int32} {h' : xv_H} {l2 : Int32} {d0 d1 d3 d4 : Option Value} {h : xv_H} (e : b110_59 F l2 h = some (r, h')) : xx sc 110 59 [d0, d1, some (.int l2), d3, d4] [] h (fun v g => v = some (.int r) ∧ g = h') := by
  unfold b110_59 at e
  refine xo_iload_n rfl rfl ?_
  exact d_zret rfl e
def b110_53 (k4 : Option Nat → Option Nat → Int32 → Int32 → xm Int32) (F : Nat) (l0 : Option Nat) (l1 : Option Nat) (l2 : Int32) (l3 : Int32) : xm Int32 := k4 l0 l1 l2 (l3 + (1 : Int32))
theorem t110_53 {sc : Nat × (Nat → Int32)} {F : Nat} {r : Int32} {h' : xv_H} {k4 : Option Nat → Option Nat → Int32 → Int32 → xm Int32} (hk4 : ∀ (l0 : Option Nat) (l1 : Option Nat) (l2 : Int32) (l3 : Int32) (d4 : Option Value) (h : xv_H), k4 l0 l1 l2 l3 h = some (r, h') → xx sc 110 4 [some (va_rf l0), some (va_rf l1), some (.int l2), some (.int l3), d4] [] h (fun v g => v = some (.int r) ∧ g = h')) {l0 : Option Nat} {l1 : Option Nat} {l2 : Int32} {l3 : Int32} {d4 : Option Value} {h : xv_H} (e : b110_53 k4 F l0 l1 l2 l3 h = some (r, h')) : xx sc 110 53 [some (va_rf l0), some (va_rf l1), some (.int l2), some (.int l3), d4] [] h (fun v g => v = some (.int r) ∧ g = h') := by
  unfold b110_53 at e
  refine xo_iincV (z := 1) rfl (by decide) rfl (Nat.le_of_ble_eq_true rfl) rfl ?_
  refine xo_goto rfl rfl ?_
  exact hk4 _ _ _ _ _ _ e
def b110_51 (k4 : Option Nat → Option Nat → Int32 → Int32 → xm Int32) (F : Nat) (l0 : Option Nat) (l1 : Option Nat) (l3 : Int32) : xm Int32 := b110_53 k4 F l0 l1 (0 : Int32) l3
theorem t110_51 {sc : Nat × (Nat → Int32)} {F : Nat} {r : Int32} {h' : xv_H} {k4 : Option Nat → Option Nat → Int32 → Int32 → xm Int32} (hk4 : ∀ (l0 : Option Nat) (l1 : Option Nat) (l2 : Int32) (l3 : Int32) (d4 : Option Value) (h : xv_H), k4 l0 l1 l2 l3 h = some (r, h') → xx sc 110 4 [some (va_rf l0), some (va_rf l1), some (.int l2), some (.int l3), d4] [] h (fun v g => v = some (.int r) ∧ g = h')) {l0 : Option Nat} {l1 : Option Nat} {l3 : Int32} {d2 d4 : Option Value} {h : xv_H} (e : b110_51 k4 F l0 l1 l3 h = some (r, h')) : xx sc 110 51 [some (va_rf l0), some (va_rf l1), d2, some (.int l3), d4] [] h (fun v g => v = some (.int r) ∧ g = h') := by
  unfold b110_51 at e
  refine xo_iconstV (x := 0) rfl (by decide) ?_
  refine xo_istore_n rfl (Nat.le_of_ble_eq_true rfl) rfl ?_
  exact t110_53 hk4 e
def b110_45 (k4 : Option Nat → Option Nat → Int32 → Int32 → xm Int32) (F : Nat) (l0 : Option Nat) (l1 : Option Nat) (l2 : Int32) (l3 : Int32) (l4 : Int32) : xm Int32 := if l4 = (1 : Int32) then b110_53 k4 F l0 l1 l2 l3 else b110_51 k4 F l0 l1 l3
theorem t110_45 {sc : Nat × (Nat → Int32)} {F : Nat} {r : Int32} {h' : xv_H} {k4 : Option Nat → Option Nat → Int32 → Int32 → xm Int32} (hk4 : ∀ (l0 : Option Nat) (l1 : Option Nat) (l2 : Int32) (l3 : Int32) (d4 : Option Value) (h : xv_H), k4 l0 l1 l2 l3 h = some (r, h') → xx sc 110 4 [some (va_rf l0), some (va_rf l1), some (.int l2), some (.int l3), d4] [] h (fun v g => v = some (.int r) ∧ g = h')) {l0 : Option Nat} {l1 : Option Nat} {l2 : Int32} {l3 : Int32} {l4 : Int32} {h : xv_H} (e : b110_45 k4 F l0 l1 l2 l3 l4 h = some (r, h')) : xx sc 110 45 [some (va_rf l0), some (va_rf l1), some (.int l2), some (.int l3), some (.int l4)] [] h (fun v g => v = some (.int r) ∧ g = h') := by
  unfold b110_45 at e
  refine xo_iload rfl rfl ?_
  refine xo_iconstV (x := 1) rfl (by decide) ?_
  refine d_icmp_eq rfl rfl e (fun _ e => ?_) (fun _ e => ?_)
  · exact t110_53 hk4 e
  · exact t110_51 hk4 e
def b110_43 (k4 : Option Nat → Option Nat → Int32 → Int32 → xm Int32) (F : Nat) : xm Int32 := mb (bz (1 : Int32)) fun _ => mr (1 : Int32)
theorem t110_43 {sc : Nat × (Nat → Int32)} {F : Nat} {r : Int32} {h' : xv_H} {k4 : Option Nat → Option Nat → Int32 → Int32 → xm Int32} (hk4 : ∀ (l0 : Option Nat) (l1 : Option Nat) (l2 : Int32) (l3 : Int32) (d4 : Option Value) (h : xv_H), k4 l0 l1 l2 l3 h = some (r, h') → xx sc 110 4 [some (va_rf l0), some (va_rf l1), some (.int l2), some (.int l3), d4] [] h (fun v g => v = some (.int r) ∧ g = h')) {d0 d1 d2 d3 d4 : Option Value} {h : xv_H} (e : b110_43 k4 F h = some (r, h')) : xx sc 110 43 [d0, d1, d2, d3, d4] [] h (fun v g => v = some (.int r) ∧ g = h') := by
  unfold b110_43 at e
  refine xo_iconstV (x := 1) rfl (by decide) ?_
  exact d_zret rfl e
def b110_21 (k4 : Option Nat → Option Nat → Int32 → Int32 → xm Int32) (F : Nat) (l0 : Option Nat) (l1 : Option Nat) (l2 : Int32) (l3 : Int32) : xm Int32 := mb (nn l0) fun v1 => mb (gr 0 v1) fun v2 => mb (nn v2) fun v3 => mb (lr 104 v3 l3) fun v4 => mb (nn v4) fun v5 => mb (gr 303 v5) fun v6 => mb (nn l1) fun v7 => mb (gi 405 v7) fun v8 => mb (nn v6) fun v9 => mb (lb v9 v8) fun v10 => if ¬ v10 = (2 : Int32) then b110_45 k4 F (some v1) (some v7) l2 l3 v10 else b110_43 k4 F
theorem t110_21 {sc : Nat × (Nat → Int32)} {F : Nat} {r : Int32} {h' : xv_H} {k4 : Option Nat → Option Nat → Int32 → Int32 → xm Int32} (hk4 : ∀ (l0 : Option Nat) (l1 : Option Nat) (l2 : Int32) (l3 : Int32) (d4 : Option Value) (h : xv_H), k4 l0 l1 l2 l3 h = some (r, h') → xx sc 110 4 [some (va_rf l0), some (va_rf l1), some (.int l2), some (.int l3), d4] [] h (fun v g => v = some (.int r) ∧ g = h')) {l0 : Option Nat} {l1 : Option Nat} {l2 : Int32} {l3 : Int32} {d4 : Option Value} {h : xv_H} (e : b110_21 k4 F l0 l1 l2 l3 h = some (r, h')) : xx sc 110 21 [some (va_rf l0), some (va_rf l1), some (.int l2), some (.int l3), d4] [] h (fun v g => v = some (.int r) ∧ g = h') := by
  unfold b110_21 at e
  refine xo_aload_nQ (w := l0) rfl rfl ?_
  refine d_nn e (fun v1 g e1 => ?_)
  subst g
  replace e := e1
  clear e1
  refine d_getr rfl e (fun v2 e => ?_)
  refine xo_iload_n rfl rfl ?_
  refine d_nn e (fun v3 g e1 => ?_)
  subst g
  replace e := e1
  clear e1
  refine d_aald rfl e (fun v4 e => ?_)
  refine d_nn e (fun v5 g e1 => ?_)
  subst g
  replace e := e1
  clear e1
  refine d_getr rfl e (fun v6 e => ?_)
  refine xo_aload_nQ (w := l1) rfl rfl ?_
  refine d_nn e (fun v7 g e1 => ?_)
  subst g
  replace e := e1
  clear e1
  refine d_geti rfl e (fun v8 e => ?_)
  refine d_nn e (fun v9 g e1 => ?_)
  subst g
  replace e := e1
  clear e1
  refine d_bald rfl e (fun v10 e => ?_)
  refine xo_istore rfl (Nat.le_of_ble_eq_true rfl) rfl ?_
  refine xo_iload rfl rfl ?_
  refine xo_iconstV (x := 2) rfl (by decide) ?_
  refine d_icmp_ne rfl rfl e (fun _ e => ?_) (fun _ e => ?_)
  · exact t110_45 hk4 e
  · exact t110_43 hk4 e
def b110_18 (k4 : Option Nat → Option Nat → Int32 → Int32 → xm Int32) (F : Nat) (l0 : Option Nat) (l1 : Option Nat) (l2 : Int32) (l3 : Int32) : xm Int32 := b110_53 k4 F l0 l1 l2 l3
theorem t110_18 {sc : Nat × (Nat → Int32)} {F : Nat} {r : Int32} {h' : xv_H} {k4 : Option Nat → Option Nat → Int32 → Int32 → xm Int32} (hk4 : ∀ (l0 : Option Nat) (l1 : Option Nat) (l2 : Int32) (l3 : Int32) (d4 : Option Value) (h : xv_H), k4 l0 l1 l2 l3 h = some (r, h') → xx sc 110 4 [some (va_rf l0), some (va_rf l1), some (.int l2), some (.int l3), d4] [] h (fun v g => v = some (.int r) ∧ g = h')) {l0 : Option Nat} {l1 : Option Nat} {l2 : Int32} {l3 : Int32} {d4 : Option Value} {h : xv_H} (e : b110_18 k4 F l0 l1 l2 l3 h = some (r, h')) : xx sc 110 18 [some (va_rf l0), some (va_rf l1), some (.int l2), some (.int l3), d4] [] h (fun v g => v = some (.int r) ∧ g = h') := by
  unfold b110_18 at e
  refine xo_goto rfl rfl ?_
  exact t110_53 hk4 e
def b110_9 (k4 : Option Nat → Option Nat → Int32 → Int32 → xm Int32) (F : Nat) (l0 : Option Nat) (l1 : Option Nat) (l2 : Int32) (l3 : Int32) : xm Int32 := mb (nn l1) fun v1 => mb (gr 402 v1) fun v2 => mb (nn v2) fun v3 => mb (lb v3 l3) fun v4 => if ¬ v4 = 0 then b110_21 k4 F l0 (some v1) l2 l3 else b110_18 k4 F l0 (some v1) l2 l3
theorem t110_9 {sc : Nat × (Nat → Int32)} {F : Nat} {r : Int32} {h' : xv_H} {k4 : Option Nat → Option Nat → Int32 → Int32 → xm Int32} (hk4 : ∀ (l0 : Option Nat) (l1 : Option Nat) (l2 : Int32) (l3 : Int32) (d4 : Option Value) (h : xv_H), k4 l0 l1 l2 l3 h = some (r, h') → xx sc 110 4 [some (va_rf l0), some (va_rf l1), some (.int l2), some (.int l3), d4] [] h (fun v g => v = some (.int r) ∧ g = h')) {l0 : Option Nat} {l1 : Option Nat} {l2 : Int32} {l3 : Int32} {d4 : Option Value} {h : xv_H} (e : b110_9 k4 F l0 l1 l2 l3 h = some (r, h')) : xx sc 110 9 [some (va_rf l0), some (va_rf l1), some (.int l2), some (.int l3), d4] [] h (fun v g => v = some (.int r) ∧ g = h') := by
  unfold b110_9 at e
  refine xo_aload_nQ (w := l1) rfl rfl ?_
  refine d_nn e (fun v1 g e1 => ?_)
  subst g
  replace e := e1
  clear e1
  refine d_getr rfl e (fun v2 e => ?_)
  refine xo_iload_n rfl rfl ?_
  refine d_nn e (fun v3 g e1 => ?_)
  subst g
  replace e := e1
  clear e1
  refine d_bald rfl e (fun v4 e => ?_)
  refine d_if_ne rfl rfl e (fun _ e => ?_) (fun _ e => ?_)
  · exact t110_21 hk4 e
  · exact t110_18 hk4 e
def b110_4 (F : Nat) : Nat → Option Nat → Option Nat → Int32 → Int32 → xm Int32
  | 0, _, _, _, _ => fun _ => none
  | f + 1, l0, l1, l2, l3 => if (3 : Int32) ≤ l3 then b110_59 F l2 else b110_9 (b110_4 F f) F l0 l1 l2 l3
theorem t110_4 {sc : Nat × (Nat → Int32)} {F : Nat} {r : Int32} {h' : xv_H} : ∀ (f : Nat) (l0 : Option Nat) (l1 : Option Nat) (l2 : Int32) (l3 : Int32) (d4 : Option Value) (h : xv_H), b110_4 F f l0 l1 l2 l3 h = some (r, h') → xx sc 110 4 [some (va_rf l0), some (va_rf l1), some (.int l2), some (.int l3), d4] [] h (fun v g => v = some (.int r) ∧ g = h') := by
  intro f
  induction f with
  | zero => intro l0 l1 l2 l3 d4 h e; cases e
  | succ f ih =>
    intro l0 l1 l2 l3 d4 h e
    unfold b110_4 at e
    refine xo_iload_n rfl rfl ?_
    refine xo_iconstV (x := 3) rfl (by decide) ?_
    refine d_icmp_ge rfl rfl e (fun _ e => ?_) (fun _ e => ?_)
    · exact t110_59 e
    · exact t110_9 (fun a0 a1 a2 a3 a4 h e => ih a0 a1 a2 a3 a4 h e) e
def b110_0 (F : Nat) (l0 : Option Nat) (l1 : Option Nat) : xm Int32 := b110_4 F F l0 l1 (1 : Int32) (0 : Int32)
theorem t110_0 {sc : Nat × (Nat → Int32)} {F : Nat} {r : Int32} {h' : xv_H} {l0 : Option Nat} {l1 : Option Nat} {d2 d3 d4 : Option Value} {h : xv_H} (e : b110_0 F l0 l1 h = some (r, h')) : xx sc 110 0 [some (va_rf l0), some (va_rf l1), d2, d3, d4] [] h (fun v g => v = some (.int r) ∧ g = h') := by
  unfold b110_0 at e
  refine xo_iconstV (x := 1) rfl (by decide) ?_
  refine xo_istore_n rfl (Nat.le_of_ble_eq_true rfl) rfl ?_
  refine xo_iconstV (x := 0) rfl (by decide) ?_
  refine xo_istore_n rfl (Nat.le_of_ble_eq_true rfl) rfl ?_
  exact t110_4 F _ _ _ _ _ _ e
def m110 (F : Nat) (this : Nat) (p0 : Option Nat) : xm Int32 := b110_0 F (some this) p0
theorem t110 {sc : Nat × (Nat → Int32)} {F : Nat} {this : Nat} {p0 : Option Nat} {h : xv_H} {r : Int32} {h' : xv_H} (e : m110 F this p0 h = some (r, h')) : xr sc 110 [.ref this, va_rf p0] h (fun v g => v = some (.int r) ∧ g = h') := by
  have e0 : xv_ent (xt_mx 110) [.ref this, va_rf p0] = [some (va_rf (some this)), some (va_rf p0), none, none, none] := by simp [xv_ent, xv_sl, va_rf_cat, cat_int, cat_long, cat_ref, cat_null, va_rf_some, show xt_mx 110 = 5 from rfl]
  unfold xr
  rw [e0]
  exact t110_0 e
-- CellTree.settle(LCellTree$Transaction;)V
def b109_58 (F : Nat) : xm Unit := mr ()
theorem t109_58 {sc : Nat × (Nat → Int32)} {F : Nat} {r : Unit} {h' : xv_H} {d0 d1 d2 d3 : Option Value} {h : xv_H} (e : b109_58 F h = some (r, h')) : xx sc 109 58 [d0, d1, d2, d3] [] h (fun v g => v = none ∧ g = h') := by
  unfold b109_58 at e
  exact d_ret rfl e
def b109_52 (k8 : Option Nat → Option Nat → Int32 → Int32 → xm Unit) (F : Nat) (l0 : Option Nat) (l1 : Option Nat) (l2 : Int32) (l3 : Int32) : xm Unit := k8 l0 l1 l2 (l3 + (1 : Int32))
theorem t109_52 {sc : Nat × (Nat → Int32)} {F : Nat} {r : Unit} {h' : xv_H} {k8 : Option Nat → Option Nat → Int32 → Int32 → xm Unit} (hk8 : ∀ (l0 : Option Nat) (l1 : Option Nat) (l2 : Int32) (l3 : Int32) (h : xv_H), k8 l0 l1 l2 l3 h = some (r, h') → xx sc 109 8 [some (va_rf l0), some (va_rf l1), some (.int l2), some (.int l3)] [] h (fun v g => v = none ∧ g = h')) {l0 : Option Nat} {l1 : Option Nat} {l2 : Int32} {l3 : Int32} {h : xv_H} (e : b109_52 k8 F l0 l1 l2 l3 h = some (r, h')) : xx sc 109 52 [some (va_rf l0), some (va_rf l1), some (.int l2), some (.int l3)] [] h (fun v g => v = none ∧ g = h') := by
  unfold b109_52 at e
  refine xo_iincV (z := 1) rfl (by decide) rfl (Nat.le_of_ble_eq_true rfl) rfl ?_
  refine xo_goto rfl rfl ?_
  exact hk8 _ _ _ _ _ e
def b109_42 (k8 : Option Nat → Option Nat → Int32 → Int32 → xm Unit) (F : Nat) (l0 : Option Nat) (l1 : Option Nat) (l2 : Int32) (l3 : Int32) : xm Unit := mb (nn l0) fun v1 => mb (gr 0 v1) fun v2 => mb (nn v2) fun v3 => mb (lr 104 v3 l3) fun v4 => mb (nn v4) fun v5 => mb (vc 3 v5) fun _ => mb (m92 F v5 l1) fun _ => b109_52 k8 F (some v1) l1 l2 l3
theorem t109_42 {sc : Nat × (Nat → Int32)} {F : Nat} {r : Unit} {h' : xv_H} {k8 : Option Nat → Option Nat → Int32 → Int32 → xm Unit} (hk8 : ∀ (l0 : Option Nat) (l1 : Option Nat) (l2 : Int32) (l3 : Int32) (h : xv_H), k8 l0 l1 l2 l3 h = some (r, h') → xx sc 109 8 [some (va_rf l0), some (va_rf l1), some (.int l2), some (.int l3)] [] h (fun v g => v = none ∧ g = h')) {l0 : Option Nat} {l1 : Option Nat} {l2 : Int32} {l3 : Int32} {h : xv_H} (e : b109_42 k8 F l0 l1 l2 l3 h = some (r, h')) : xx sc 109 42 [some (va_rf l0), some (va_rf l1), some (.int l2), some (.int l3)] [] h (fun v g => v = none ∧ g = h') := by
  unfold b109_42 at e
  refine xo_aload_nQ (w := l0) rfl rfl ?_
  refine d_nn e (fun v1 g e1 => ?_)
  subst g
  replace e := e1
  clear e1
  refine d_getr rfl e (fun v2 e => ?_)
  refine xo_iload_n rfl rfl ?_
  refine d_nn e (fun v3 g e1 => ?_)
  subst g
  replace e := e1
  clear e1
  refine d_aald rfl e (fun v4 e => ?_)
  refine xo_aload_nQ (w := l1) rfl rfl ?_
  refine d_nn e (fun v5 g e1 => ?_)
  subst g
  replace e := e1
  clear e1
  refine d_virtual_v (av := [va_rf l1]) (rest := []) rfl ⟨by decide, by decide⟩ rfl rfl (by simp [xv_fit, va_rf_cat, cat_int, cat_long, cat_ref, cat_null, show xt_mx 92 = 3 from rfl, show xt_lg 92 = [] from rfl]) (by simp [xv_room, va_rf_cat, cat_int, cat_long, cat_ref, cat_null]) (fun x0 h1 e1 => t92 e1) e (fun _ h e => ?_)
  exact t109_52 hk8 e
def b109_29 (k8 : Option Nat → Option Nat → Int32 → Int32 → xm Unit) (F : Nat) (l0 : Option Nat) (l1 : Option Nat) (l2 : Int32) (l3 : Int32) : xm Unit := mb (nn l0) fun v1 => mb (gr 0 v1) fun v2 => mb (nn v2) fun v3 => mb (lr 104 v3 l3) fun v4 => mb (nn v4) fun v5 => mb (vc 3 v5) fun _ => mb (m87 F v5 l1) fun _ => b109_52 k8 F (some v1) l1 l2 l3
theorem t109_29 {sc : Nat × (Nat → Int32)} {F : Nat} {r : Unit} {h' : xv_H} {k8 : Option Nat → Option Nat → Int32 → Int32 → xm Unit} (hk8 : ∀ (l0 : Option Nat) (l1 : Option Nat) (l2 : Int32) (l3 : Int32) (h : xv_H), k8 l0 l1 l2 l3 h = some (r, h') → xx sc 109 8 [some (va_rf l0), some (va_rf l1), some (.int l2), some (.int l3)] [] h (fun v g => v = none ∧ g = h')) {l0 : Option Nat} {l1 : Option Nat} {l2 : Int32} {l3 : Int32} {h : xv_H} (e : b109_29 k8 F l0 l1 l2 l3 h = some (r, h')) : xx sc 109 29 [some (va_rf l0), some (va_rf l1), some (.int l2), some (.int l3)] [] h (fun v g => v = none ∧ g = h') := by
  unfold b109_29 at e
  refine xo_aload_nQ (w := l0) rfl rfl ?_
  refine d_nn e (fun v1 g e1 => ?_)
  subst g
  replace e := e1
  clear e1
  refine d_getr rfl e (fun v2 e => ?_)
  refine xo_iload_n rfl rfl ?_
  refine d_nn e (fun v3 g e1 => ?_)
  subst g
  replace e := e1
  clear e1
  refine d_aald rfl e (fun v4 e => ?_)
  refine xo_aload_nQ (w := l1) rfl rfl ?_
  refine d_nn e (fun v5 g e1 => ?_)
  subst g
  replace e := e1
  clear e1
  refine d_virtual_v (av := [va_rf l1]) (rest := []) rfl ⟨by decide, by decide⟩ rfl rfl (by simp [xv_fit, va_rf_cat, cat_int, cat_long, cat_ref, cat_null, show xt_mx 87 = 2 from rfl, show xt_lg 87 = [] from rfl]) (by simp [xv_room, va_rf_cat, cat_int, cat_long, cat_ref, cat_null]) (fun x0 h1 e1 => t87 e1) e (fun _ h e => ?_)
  refine xo_goto rfl rfl ?_
  exact t109_52 hk8 e
def b109_25 (k8 : Option Nat → Option Nat → Int32 → Int32 → xm Unit) (F : Nat) (l0 : Option Nat) (l1 : Option Nat) (l2 : Int32) (l3 : Int32) : xm Unit := if l2 = 0 then b109_42 k8 F l0 l1 l2 l3 else b109_29 k8 F l0 l1 l2 l3
theorem t109_25 {sc : Nat × (Nat → Int32)} {F : Nat} {r : Unit} {h' : xv_H} {k8 : Option Nat → Option Nat → Int32 → Int32 → xm Unit} (hk8 : ∀ (l0 : Option Nat) (l1 : Option Nat) (l2 : Int32) (l3 : Int32) (h : xv_H), k8 l0 l1 l2 l3 h = some (r, h') → xx sc 109 8 [some (va_rf l0), some (va_rf l1), some (.int l2), some (.int l3)] [] h (fun v g => v = none ∧ g = h')) {l0 : Option Nat} {l1 : Option Nat} {l2 : Int32} {l3 : Int32} {h : xv_H} (e : b109_25 k8 F l0 l1 l2 l3 h = some (r, h')) : xx sc 109 25 [some (va_rf l0), some (va_rf l1), some (.int l2), some (.int l3)] [] h (fun v g => v = none ∧ g = h') := by
  unfold b109_25 at e
  refine xo_iload_n rfl rfl ?_
  refine d_if_eq rfl rfl e (fun _ e => ?_) (fun _ e => ?_)
  · exact t109_42 hk8 e
  · exact t109_29 hk8 e
def b109_22 (k8 : Option Nat → Option Nat → Int32 → Int32 → xm Unit) (F : Nat) (l0 : Option Nat) (l1 : Option Nat) (l2 : Int32) (l3 : Int32) : xm Unit := b109_52 k8 F l0 l1 l2 l3
theorem t109_22 {sc : Nat × (Nat → Int32)} {F : Nat} {r : Unit} {h' : xv_H} {k8 : Option Nat → Option Nat → Int32 → Int32 → xm Unit} (hk8 : ∀ (l0 : Option Nat) (l1 : Option Nat) (l2 : Int32) (l3 : Int32) (h : xv_H), k8 l0 l1 l2 l3 h = some (r, h') → xx sc 109 8 [some (va_rf l0), some (va_rf l1), some (.int l2), some (.int l3)] [] h (fun v g => v = none ∧ g = h')) {l0 : Option Nat} {l1 : Option Nat} {l2 : Int32} {l3 : Int32} {h : xv_H} (e : b109_22 k8 F l0 l1 l2 l3 h = some (r, h')) : xx sc 109 22 [some (va_rf l0), some (va_rf l1), some (.int l2), some (.int l3)] [] h (fun v g => v = none ∧ g = h') := by
  unfold b109_22 at e
  refine xo_goto rfl rfl ?_
  exact t109_52 hk8 e
def b109_13 (k8 : Option Nat → Option Nat → Int32 → Int32 → xm Unit) (F : Nat) (l0 : Option Nat) (l1 : Option Nat) (l2 : Int32) (l3 : Int32) : xm Unit := mb (nn l1) fun v1 => mb (gr 402 v1) fun v2 => mb (nn v2) fun v3 => mb (lb v3 l3) fun v4 => if ¬ v4 = 0 then b109_25 k8 F l0 (some v1) l2 l3 else b109_22 k8 F l0 (some v1) l2 l3
theorem t109_13 {sc : Nat × (Nat → Int32)} {F : Nat} {r : Unit} {h' : xv_H} {k8 : Option Nat → Option Nat → Int32 → Int32 → xm Unit} (hk8 : ∀ (l0 : Option Nat) (l1 : Option Nat) (l2 : Int32) (l3 : Int32) (h : xv_H), k8 l0 l1 l2 l3 h = some (r, h') → xx sc 109 8 [some (va_rf l0), some (va_rf l1), some (.int l2), some (.int l3)] [] h (fun v g => v = none ∧ g = h')) {l0 : Option Nat} {l1 : Option Nat} {l2 : Int32} {l3 : Int32} {h : xv_H} (e : b109_13 k8 F l0 l1 l2 l3 h = some (r, h')) : xx sc 109 13 [some (va_rf l0), some (va_rf l1), some (.int l2), some (.int l3)] [] h (fun v g => v = none ∧ g = h') := by
  unfold b109_13 at e
  refine xo_aload_nQ (w := l1) rfl rfl ?_
  refine d_nn e (fun v1 g e1 => ?_)
  subst g
  replace e := e1
  clear e1
  refine d_getr rfl e (fun v2 e => ?_)
  refine xo_iload_n rfl rfl ?_
  refine d_nn e (fun v3 g e1 => ?_)
  subst g
  replace e := e1
  clear e1
  refine d_bald rfl e (fun v4 e => ?_)
  refine d_if_ne rfl rfl e (fun _ e => ?_) (fun _ e => ?_)
  · exact t109_25 hk8 e
  · exact t109_22 hk8 e
def b109_8 (F : Nat) : Nat → Option Nat → Option Nat → Int32 → Int32 → xm Unit
  | 0, _, _, _, _ => fun _ => none
  | f + 1, l0, l1, l2, l3 => if (3 : Int32) ≤ l3 then b109_58 F else b109_13 (b109_8 F f) F l0 l1 l2 l3
theorem t109_8 {sc : Nat × (Nat → Int32)} {F : Nat} {r : Unit} {h' : xv_H} : ∀ (f : Nat) (l0 : Option Nat) (l1 : Option Nat) (l2 : Int32) (l3 : Int32) (h : xv_H), b109_8 F f l0 l1 l2 l3 h = some (r, h') → xx sc 109 8 [some (va_rf l0), some (va_rf l1), some (.int l2), some (.int l3)] [] h (fun v g => v = none ∧ g = h') := by
  intro f
  induction f with
  | zero => intro l0 l1 l2 l3 h e; cases e
  | succ f ih =>
    intro l0 l1 l2 l3 h e
    unfold b109_8 at e
    refine xo_iload_n rfl rfl ?_
    refine xo_iconstV (x := 3) rfl (by decide) ?_
    refine d_icmp_ge rfl rfl e (fun _ e => ?_) (fun _ e => ?_)
    · exact t109_58 e
    · exact t109_13 (fun a0 a1 a2 a3 h e => ih a0 a1 a2 a3 h e) e
def b109_0 (F : Nat) (l0 : Option Nat) (l1 : Option Nat) : xm Unit := mb (nn l0) fun v1 => mb (vc 0 v1) fun _ => mb (m110 F v1 l1) fun v2 => b109_8 F F (some v1) l1 v2 (0 : Int32)
theorem t109_0 {sc : Nat × (Nat → Int32)} {F : Nat} {r : Unit} {h' : xv_H} {l0 : Option Nat} {l1 : Option Nat} {d2 d3 : Option Value} {h : xv_H} (e : b109_0 F l0 l1 h = some (r, h')) : xx sc 109 0 [some (va_rf l0), some (va_rf l1), d2, d3] [] h (fun v g => v = none ∧ g = h') := by
  unfold b109_0 at e
  refine xo_aload_nQ (w := l0) rfl rfl ?_
  refine xo_aload_nQ (w := l1) rfl rfl ?_
  refine d_nn e (fun v1 g e1 => ?_)
  subst g
  replace e := e1
  clear e1
  refine d_virtual_i (av := [va_rf l1]) (rest := []) rfl ⟨by decide, by decide⟩ rfl rfl (by simp [xv_fit, va_rf_cat, cat_int, cat_long, cat_ref, cat_null, show xt_mx 110 = 5 from rfl, show xt_lg 110 = [] from rfl]) (by simp [xv_room, va_rf_cat, cat_int, cat_long, cat_ref, cat_null]) (fun x0 h1 e1 => t110 e1) e (fun v2 h e => ?_)
  refine xo_istore_n rfl (Nat.le_of_ble_eq_true rfl) rfl ?_
  refine xo_iconstV (x := 0) rfl (by decide) ?_
  refine xo_istore_n rfl (Nat.le_of_ble_eq_true rfl) rfl ?_
  exact t109_8 F _ _ _ _ _ e
def m109 (F : Nat) (this : Nat) (p0 : Option Nat) : xm Unit := b109_0 F (some this) p0
theorem t109 {sc : Nat × (Nat → Int32)} {F : Nat} {this : Nat} {p0 : Option Nat} {h : xv_H} {r : Unit} {h' : xv_H} (e : m109 F this p0 h = some (r, h')) : xr sc 109 [.ref this, va_rf p0] h (fun v g => v = none ∧ g = h') := by
  have e0 : xv_ent (xt_mx 109) [.ref this, va_rf p0] = [some (va_rf (some this)), some (va_rf p0), none, none] := by simp [xv_ent, xv_sl, va_rf_cat, cat_int, cat_long, cat_ref, cat_null, va_rf_some, show xt_mx 109 = 4 from rfl]
  unfold xr
  rw [e0]
  exact t109_0 e
-- CellTree.recover(I)I
def b105_63 (F : Nat) (l0 : Option Nat) (l2 : Int32) : xm Int32 := mb (nn l0) fun v1 => mb (gr 3 v1) fun v2 => mb (nn v2) fun v3 => mb (lr 106 v3 l2) fun v4 => mb (vc 0 v1) fun _ => mb (m109 F v1 v4) fun _ => mr l2
theorem t105_63 {sc : Nat × (Nat → Int32)} {F : Nat} {r : Int32} {h' : xv_H} {l0 : Option Nat} {l2 : Int32} {d1 : Option Value} {h : xv_H} (e : b105_63 F l0 l2 h = some (r, h')) : xx sc 105 63 [some (va_rf l0), d1, some (.int l2)] [] h (fun v g => v = some (.int r) ∧ g = h') := by
  unfold b105_63 at e
  refine xo_aload_nQ (w := l0) rfl rfl ?_
  refine xo_aload_nQ (w := l0) rfl rfl ?_
  refine d_nn e (fun v1 g e1 => ?_)
  subst g
  replace e := e1
  clear e1
  refine d_getr rfl e (fun v2 e => ?_)
  refine xo_iload_n rfl rfl ?_
  refine d_nn e (fun v3 g e1 => ?_)
  subst g
  replace e := e1
  clear e1
  refine d_aald rfl e (fun v4 e => ?_)
  refine d_virtual_v (av := [va_rf v4]) (rest := []) rfl ⟨by decide, by decide⟩ rfl rfl (by simp [xv_fit, va_rf_cat, cat_int, cat_long, cat_ref, cat_null, show xt_mx 109 = 4 from rfl, show xt_lg 109 = [] from rfl]) (by simp [xv_room, va_rf_cat, cat_int, cat_long, cat_ref, cat_null]) (fun x0 h1 e1 => t109 e1) e (fun _ h e => ?_)
  refine xo_iload_n rfl rfl ?_
  exact d_iret rfl e
def b105_61 (F : Nat) : xm Int32 := mr (-1 : Int32)
theorem t105_61 {sc : Nat × (Nat → Int32)} {F : Nat} {r : Int32} {h' : xv_H} {d0 d1 d2 : Option Value} {h : xv_H} (e : b105_61 F h = some (r, h')) : xx sc 105 61 [d0, d1, d2] [] h (fun v g => v = some (.int r) ∧ g = h') := by
  unfold b105_61 at e
  refine xo_iconstV (x := (-1)) rfl (by decide) ?_
  exact d_iret rfl e
def b105_48 (F : Nat) (l0 : Option Nat) (l2 : Int32) : xm Int32 := mb (nn l0) fun v1 => mb (gr 3 v1) fun v2 => mb (nn v2) fun v3 => mb (lr 106 v3 l2) fun v4 => mb (vc 0 v1) fun _ => mb (m108 F v1 v4) fun v5 => if ¬ v5 = 0 then b105_63 F (some v1) l2 else b105_61 F
theorem t105_48 {sc : Nat × (Nat → Int32)} {F : Nat} {r : Int32} {h' : xv_H} {l0 : Option Nat} {l2 : Int32} {d1 : Option Value} {h : xv_H} (e : b105_48 F l0 l2 h = some (r, h')) : xx sc 105 48 [some (va_rf l0), d1, some (.int l2)] [] h (fun v g => v = some (.int r) ∧ g = h') := by
  unfold b105_48 at e
  refine xo_aload_nQ (w := l0) rfl rfl ?_
  refine xo_aload_nQ (w := l0) rfl rfl ?_
  refine d_nn e (fun v1 g e1 => ?_)
  subst g
  replace e := e1
  clear e1
  refine d_getr rfl e (fun v2 e => ?_)
  refine xo_iload_n rfl rfl ?_
  refine d_nn e (fun v3 g e1 => ?_)
  subst g
  replace e := e1
  clear e1
  refine d_aald rfl e (fun v4 e => ?_)
  refine d_virtual_i (av := [va_rf v4]) (rest := []) rfl ⟨by decide, by decide⟩ rfl rfl (by simp [xv_fit, va_rf_cat, cat_int, cat_long, cat_ref, cat_null, show xt_mx 108 = 3 from rfl, show xt_lg 108 = [] from rfl]) (by simp [xv_room, va_rf_cat, cat_int, cat_long, cat_ref, cat_null]) (fun x0 h1 e1 => t108 e1) e (fun v5 h e => ?_)
  refine d_if_ne rfl rfl e (fun _ e => ?_) (fun _ e => ?_)
  · exact t105_63 e
  · exact t105_61 e
def b105_39 (F : Nat) (l0 : Option Nat) (l2 : Int32) : xm Int32 := mb (nn l0) fun v1 => mb (gr 3 v1) fun v2 => mb (nn v2) fun v3 => mb (lr 106 v3 l2) fun v4 => if v4 = none then b105_61 F else b105_48 F (some v1) l2
theorem t105_39 {sc : Nat × (Nat → Int32)} {F : Nat} {r : Int32} {h' : xv_H} {l0 : Option Nat} {l2 : Int32} {d1 : Option Value} {h : xv_H} (e : b105_39 F l0 l2 h = some (r, h')) : xx sc 105 39 [some (va_rf l0), d1, some (.int l2)] [] h (fun v g => v = some (.int r) ∧ g = h') := by
  unfold b105_39 at e
  refine xo_aload_nQ (w := l0) rfl rfl ?_
  refine d_nn e (fun v1 g e1 => ?_)
  subst g
  replace e := e1
  clear e1
  refine d_getr rfl e (fun v2 e => ?_)
  refine xo_iload_n rfl rfl ?_
  refine d_nn e (fun v3 g e1 => ?_)
  subst g
  replace e := e1
  clear e1
  refine d_aald rfl e (fun v4 e => ?_)
  refine d_ifnull (w := v4) rfl rfl e (fun _ e => ?_) (fun _ e => ?_)
  · exact t105_61 e
  · exact t105_48 e
def b105_21 (F : Nat) (l0 : Option Nat) (l1 : Int32) : xm Int32 := mb (nn l0) fun v1 => mb (gr 0 v1) fun v2 => mb (nn v2) fun v3 => mb (lr 104 v3 l1) fun v4 => mb (gi 4 v1) fun v5 => mb (nn v4) fun v6 => mb (vc 3 v6) fun _ => mb (m107 F v6 v5) fun v7 => if v7 = 0 then b105_61 F else b105_39 F (some v1) v7
theorem t105_21 {sc : Nat × (Nat → Int32)} {F : Nat} {r : Int32} {h' : xv_H} {l0 : Option Nat} {l1 : Int32} {d2 : Option Value} {h : xv_H} (e : b105_21 F l0 l1 h = some (r, h')) : xx sc 105 21 [some (va_rf l0), some (.int l1), d2] [] h (fun v g => v = some (.int r) ∧ g = h') := by
  unfold b105_21 at e
  refine xo_aload_nQ (w := l0) rfl rfl ?_
  refine d_nn e (fun v1 g e1 => ?_)
  subst g
  replace e := e1
  clear e1
  refine d_getr rfl e (fun v2 e => ?_)
  refine xo_iload_n rfl rfl ?_
  refine d_nn e (fun v3 g e1 => ?_)
  subst g
  replace e := e1
  clear e1
  refine d_aald rfl e (fun v4 e => ?_)
  refine xo_aload_nQ (w := (some v1)) rfl rfl ?_
  refine d_geti rfl e (fun v5 e => ?_)
  refine d_nn e (fun v6 g e1 => ?_)
  subst g
  replace e := e1
  clear e1
  refine d_virtual_i (av := [.int v5]) (rest := []) rfl ⟨by decide, by decide⟩ rfl rfl (by simp [xv_fit, va_rf_cat, cat_int, cat_long, cat_ref, cat_null, show xt_mx 107 = 3 from rfl, show xt_lg 107 = [] from rfl]) (by simp [xv_room, va_rf_cat, cat_int, cat_long, cat_ref, cat_null]) (fun x0 h1 e1 => t107 e1) e (fun v7 h e => ?_)
  refine xo_istore_n rfl (Nat.le_of_ble_eq_true rfl) rfl ?_
  refine xo_iload_n rfl rfl ?_
  refine d_if_eq rfl rfl e (fun _ e => ?_) (fun _ e => ?_)
  · exact t105_61 e
  · exact t105_39 e
def b105_19 (F : Nat) : xm Int32 := mr (-1 : Int32)
theorem t105_19 {sc : Nat × (Nat → Int32)} {F : Nat} {r : Int32} {h' : xv_H} {d0 d1 d2 : Option Value} {h : xv_H} (e : b105_19 F h = some (r, h')) : xx sc 105 19 [d0, d1, d2] [] h (fun v g => v = some (.int r) ∧ g = h') := by
  unfold b105_19 at e
  refine xo_iconstV (x := (-1)) rfl (by decide) ?_
  exact d_iret rfl e
def b105_7 (F : Nat) (l0 : Option Nat) (l1 : Int32) : xm Int32 := mb (nn l0) fun v1 => mb (gr 0 v1) fun v2 => mb (nn v2) fun v3 => mb (lr 104 v3 l1) fun v4 => mb (nn v4) fun v5 => mb (gi 304 v5) fun v6 => if ¬ v6 = 0 then b105_21 F (some v1) l1 else b105_19 F
theorem t105_7 {sc : Nat × (Nat → Int32)} {F : Nat} {r : Int32} {h' : xv_H} {l0 : Option Nat} {l1 : Int32} {d2 : Option Value} {h : xv_H} (e : b105_7 F l0 l1 h = some (r, h')) : xx sc 105 7 [some (va_rf l0), some (.int l1), d2] [] h (fun v g => v = some (.int r) ∧ g = h') := by
  unfold b105_7 at e
  refine xo_aload_nQ (w := l0) rfl rfl ?_
  refine d_nn e (fun v1 g e1 => ?_)
  subst g
  replace e := e1
  clear e1
  refine d_getr rfl e (fun v2 e => ?_)
  refine xo_iload_n rfl rfl ?_
  refine d_nn e (fun v3 g e1 => ?_)
  subst g
  replace e := e1
  clear e1
  refine d_aald rfl e (fun v4 e => ?_)
  refine d_nn e (fun v5 g e1 => ?_)
  subst g
  replace e := e1
  clear e1
  refine d_getz rfl e (fun v6 e => ?_)
  refine d_if_ne rfl rfl e (fun _ e => ?_) (fun _ e => ?_)
  · exact t105_21 e
  · exact t105_19 e
def b105_0 (F : Nat) (l0 : Option Nat) (l1 : Int32) : xm Int32 := mb (m106 F l1) fun v1 => if v1 = 0 then b105_19 F else b105_7 F l0 l1
theorem t105_0 {sc : Nat × (Nat → Int32)} {F : Nat} {r : Int32} {h' : xv_H} {l0 : Option Nat} {l1 : Int32} {d2 : Option Value} {h : xv_H} (e : b105_0 F l0 l1 h = some (r, h')) : xx sc 105 0 [some (va_rf l0), some (.int l1), d2] [] h (fun v g => v = some (.int r) ∧ g = h') := by
  unfold b105_0 at e
  refine xo_iload_n rfl rfl ?_
  refine d_static_i (av := [.int l1]) (rest := []) rfl ⟨by decide, by decide, by decide⟩ rfl rfl (by simp [xv_fit, va_rf_cat, cat_int, cat_long, cat_ref, cat_null, show xt_mx 106 = 1 from rfl, show xt_lg 106 = [] from rfl]) (by simp [xv_room, va_rf_cat, cat_int, cat_long, cat_ref, cat_null]) (fun x0 h1 e1 => t106 e1) e (fun v1 h e => ?_)
  refine d_if_eq rfl rfl e (fun _ e => ?_) (fun _ e => ?_)
  · exact t105_19 e
  · exact t105_7 e
def m105 (F : Nat) (this : Nat) (p0 : Int32) : xm Int32 := b105_0 F (some this) p0
theorem t105 {sc : Nat × (Nat → Int32)} {F : Nat} {this : Nat} {p0 : Int32} {h : xv_H} {r : Int32} {h' : xv_H} (e : m105 F this p0 h = some (r, h')) : xr sc 105 [.ref this, .int p0] h (fun v g => v = some (.int r) ∧ g = h') := by
  have e0 : xv_ent (xt_mx 105) [.ref this, .int p0] = [some (va_rf (some this)), some (.int p0), none] := by simp [xv_ent, xv_sl, va_rf_cat, cat_int, cat_long, cat_ref, cat_null, va_rf_some, show xt_mx 105 = 3 from rfl]
  unfold xr
  rw [e0]
  exact t105_0 e
-- CellTree.work(I)I
def b111_23 (F : Nat) (s0 : Int32) : xm Int32 := mr s0
theorem t111_23 {sc : Nat × (Nat → Int32)} {F : Nat} {r : Int32} {h' : xv_H} {s0 : Int32} {d0 d1 : Option Value} {h : xv_H} (e : b111_23 F s0 h = some (r, h')) : xx sc 111 23 [d0, d1] [.int s0] h (fun v g => v = some (.int r) ∧ g = h') := by
  unfold b111_23 at e
  exact d_iret rfl e
def b111_22 (F : Nat) : xm Int32 := b111_23 F (-1 : Int32)
theorem t111_22 {sc : Nat × (Nat → Int32)} {F : Nat} {r : Int32} {h' : xv_H} {d0 d1 : Option Value} {h : xv_H} (e : b111_22 F h = some (r, h')) : xx sc 111 22 [d0, d1] [] h (fun v g => v = some (.int r) ∧ g = h') := by
  unfold b111_22 at e
  refine xo_iconstV (x := (-1)) rfl (by decide) ?_
  exact t111_23 e
def b111_7 (F : Nat) (l0 : Option Nat) (l1 : Int32) : xm Int32 := mb (nn l0) fun v1 => mb (gr 1 v1) fun v2 => mb (nn v2) fun v3 => mb (lr 105 v3 l1) fun v4 => mb (nn v4) fun v5 => mb (gr 102 v5) fun v6 => mb (nn v6) fun v7 => mb (gi 207 v7) fun v8 => b111_23 F v8
theorem t111_7 {sc : Nat × (Nat → Int32)} {F : Nat} {r : Int32} {h' : xv_H} {l0 : Option Nat} {l1 : Int32} {h : xv_H} (e : b111_7 F l0 l1 h = some (r, h')) : xx sc 111 7 [some (va_rf l0), some (.int l1)] [] h (fun v g => v = some (.int r) ∧ g = h') := by
  unfold b111_7 at e
  refine xo_aload_nQ (w := l0) rfl rfl ?_
  refine d_nn e (fun v1 g e1 => ?_)
  subst g
  replace e := e1
  clear e1
  refine d_getr rfl e (fun v2 e => ?_)
  refine xo_iload_n rfl rfl ?_
  refine d_nn e (fun v3 g e1 => ?_)
  subst g
  replace e := e1
  clear e1
  refine d_aald rfl e (fun v4 e => ?_)
  refine d_nn e (fun v5 g e1 => ?_)
  subst g
  replace e := e1
  clear e1
  refine d_getr rfl e (fun v6 e => ?_)
  refine d_nn e (fun v7 g e1 => ?_)
  subst g
  replace e := e1
  clear e1
  refine d_geti rfl e (fun v8 e => ?_)
  refine xo_goto rfl rfl ?_
  exact t111_23 e
def b111_0 (F : Nat) (l0 : Option Nat) (l1 : Int32) : xm Int32 := mb (m11 F l1) fun v1 => if v1 = 0 then b111_22 F else b111_7 F l0 l1
theorem t111_0 {sc : Nat × (Nat → Int32)} {F : Nat} {r : Int32} {h' : xv_H} {l0 : Option Nat} {l1 : Int32} {h : xv_H} (e : b111_0 F l0 l1 h = some (r, h')) : xx sc 111 0 [some (va_rf l0), some (.int l1)] [] h (fun v g => v = some (.int r) ∧ g = h') := by
  unfold b111_0 at e
  refine xo_iload_n rfl rfl ?_
  refine d_static_i (av := [.int l1]) (rest := []) rfl ⟨by decide, by decide, by decide⟩ rfl rfl (by simp [xv_fit, va_rf_cat, cat_int, cat_long, cat_ref, cat_null, show xt_mx 11 = 1 from rfl, show xt_lg 11 = [] from rfl]) (by simp [xv_room, va_rf_cat, cat_int, cat_long, cat_ref, cat_null]) (fun x0 h1 e1 => t11 e1) e (fun v1 h e => ?_)
  refine d_if_eq rfl rfl e (fun _ e => ?_) (fun _ e => ?_)
  · exact t111_22 e
  · exact t111_7 e
def m111 (F : Nat) (this : Nat) (p0 : Int32) : xm Int32 := b111_0 F (some this) p0
theorem t111 {sc : Nat × (Nat → Int32)} {F : Nat} {this : Nat} {p0 : Int32} {h : xv_H} {r : Int32} {h' : xv_H} (e : m111 F this p0 h = some (r, h')) : xr sc 111 [.ref this, .int p0] h (fun v g => v = some (.int r) ∧ g = h') := by
  have e0 : xv_ent (xt_mx 111) [.ref this, .int p0] = [some (va_rf (some this)), some (.int p0)] := by simp [xv_ent, xv_sl, va_rf_cat, cat_int, cat_long, cat_ref, cat_null, va_rf_some, show xt_mx 111 = 2 from rfl]
  unfold xr
  rw [e0]
  exact t111_0 e
-- CellTree$Job.answer()I
def b113_16 (F : Nat) (s0 : Int32) : xm Int32 := mr s0
theorem t113_16 {sc : Nat × (Nat → Int32)} {F : Nat} {r : Int32} {h' : xv_H} {s0 : Int32} {d0 : Option Value} {h : xv_H} (e : b113_16 F s0 h = some (r, h')) : xx sc 113 16 [d0] [.int s0] h (fun v g => v = some (.int r) ∧ g = h') := by
  unfold b113_16 at e
  exact d_iret rfl e
def b113_15 (F : Nat) : xm Int32 := b113_16 F (0 : Int32)
theorem t113_15 {sc : Nat × (Nat → Int32)} {F : Nat} {r : Int32} {h' : xv_H} {d0 : Option Value} {h : xv_H} (e : b113_15 F h = some (r, h')) : xx sc 113 15 [d0] [] h (fun v g => v = some (.int r) ∧ g = h') := by
  unfold b113_15 at e
  refine xo_iconstV (x := 0) rfl (by decide) ?_
  exact t113_16 e
def b113_8 (F : Nat) (l0 : Option Nat) : xm Int32 := mb (nn l0) fun v1 => mb (gi 210 v1) fun v2 => b113_16 F v2
theorem t113_8 {sc : Nat × (Nat → Int32)} {F : Nat} {r : Int32} {h' : xv_H} {l0 : Option Nat} {h : xv_H} (e : b113_8 F l0 h = some (r, h')) : xx sc 113 8 [some (va_rf l0)] [] h (fun v g => v = some (.int r) ∧ g = h') := by
  unfold b113_8 at e
  refine xo_aload_nQ (w := l0) rfl rfl ?_
  refine d_nn e (fun v1 g e1 => ?_)
  subst g
  replace e := e1
  clear e1
  refine d_geti rfl e (fun v2 e => ?_)
  refine xo_goto rfl rfl ?_
  exact t113_16 e
def b113_0 (F : Nat) (l0 : Option Nat) : xm Int32 := mb (nn l0) fun v1 => mb (gi 207 v1) fun v2 => if ¬ v2 = (3 : Int32) then b113_15 F else b113_8 F (some v1)
theorem t113_0 {sc : Nat × (Nat → Int32)} {F : Nat} {r : Int32} {h' : xv_H} {l0 : Option Nat} {h : xv_H} (e : b113_0 F l0 h = some (r, h')) : xx sc 113 0 [some (va_rf l0)] [] h (fun v g => v = some (.int r) ∧ g = h') := by
  unfold b113_0 at e
  refine xo_aload_nQ (w := l0) rfl rfl ?_
  refine d_nn e (fun v1 g e1 => ?_)
  subst g
  replace e := e1
  clear e1
  refine d_geti rfl e (fun v2 e => ?_)
  refine xo_iconstV (x := 3) rfl (by decide) ?_
  refine d_icmp_ne rfl rfl e (fun _ e => ?_) (fun _ e => ?_)
  · exact t113_15 e
  · exact t113_8 e
def m113 (F : Nat) (this : Nat) : xm Int32 := b113_0 F (some this)
theorem t113 {sc : Nat × (Nat → Int32)} {F : Nat} {this : Nat} {h : xv_H} {r : Int32} {h' : xv_H} (e : m113 F this h = some (r, h')) : xr sc 113 [.ref this] h (fun v g => v = some (.int r) ∧ g = h') := by
  have e0 : xv_ent (xt_mx 113) [.ref this] = [some (va_rf (some this))] := by simp [xv_ent, xv_sl, va_rf_cat, cat_int, cat_long, cat_ref, cat_null, va_rf_some, show xt_mx 113 = 1 from rfl]
  unfold xr
  rw [e0]
  exact t113_0 e
-- CellTree$Job.fuelLeft()I
def b114_15 (F : Nat) (s0 : Int32) : xm Int32 := mr s0
theorem t114_15 {sc : Nat × (Nat → Int32)} {F : Nat} {r : Int32} {h' : xv_H} {s0 : Int32} {d0 : Option Value} {h : xv_H} (e : b114_15 F s0 h = some (r, h')) : xx sc 114 15 [d0] [.int s0] h (fun v g => v = some (.int r) ∧ g = h') := by
  unfold b114_15 at e
  exact d_iret rfl e
def b114_11 (F : Nat) (l0 : Option Nat) : xm Int32 := mb (nn l0) fun v1 => mb (gi 208 v1) fun v2 => b114_15 F v2
theorem t114_11 {sc : Nat × (Nat → Int32)} {F : Nat} {r : Int32} {h' : xv_H} {l0 : Option Nat} {h : xv_H} (e : b114_11 F l0 h = some (r, h')) : xx sc 114 11 [some (va_rf l0)] [] h (fun v g => v = some (.int r) ∧ g = h') := by
  unfold b114_11 at e
  refine xo_aload_nQ (w := l0) rfl rfl ?_
  refine d_nn e (fun v1 g e1 => ?_)
  subst g
  replace e := e1
  clear e1
  refine d_geti rfl e (fun v2 e => ?_)
  exact t114_15 e
def b114_7 (F : Nat) : xm Int32 := b114_15 F (0 : Int32)
theorem t114_7 {sc : Nat × (Nat → Int32)} {F : Nat} {r : Int32} {h' : xv_H} {d0 : Option Value} {h : xv_H} (e : b114_7 F h = some (r, h')) : xx sc 114 7 [d0] [] h (fun v g => v = some (.int r) ∧ g = h') := by
  unfold b114_7 at e
  refine xo_iconstV (x := 0) rfl (by decide) ?_
  refine xo_goto rfl rfl ?_
  exact t114_15 e
def b114_0 (F : Nat) (l0 : Option Nat) : xm Int32 := mb (nn l0) fun v1 => mb (gi 207 v1) fun v2 => if ¬ v2 = 0 then b114_11 F (some v1) else b114_7 F
theorem t114_0 {sc : Nat × (Nat → Int32)} {F : Nat} {r : Int32} {h' : xv_H} {l0 : Option Nat} {h : xv_H} (e : b114_0 F l0 h = some (r, h')) : xx sc 114 0 [some (va_rf l0)] [] h (fun v g => v = some (.int r) ∧ g = h') := by
  unfold b114_0 at e
  refine xo_aload_nQ (w := l0) rfl rfl ?_
  refine d_nn e (fun v1 g e1 => ?_)
  subst g
  replace e := e1
  clear e1
  refine d_geti rfl e (fun v2 e => ?_)
  refine d_if_ne rfl rfl e (fun _ e => ?_) (fun _ e => ?_)
  · exact t114_11 e
  · exact t114_7 e
def m114 (F : Nat) (this : Nat) : xm Int32 := b114_0 F (some this)
theorem t114 {sc : Nat × (Nat → Int32)} {F : Nat} {this : Nat} {h : xv_H} {r : Int32} {h' : xv_H} (e : m114 F this h = some (r, h')) : xr sc 114 [.ref this] h (fun v g => v = some (.int r) ∧ g = h') := by
  have e0 : xv_ent (xt_mx 114) [.ref this] = [some (va_rf (some this))] := by simp [xv_ent, xv_sl, va_rf_cat, cat_int, cat_long, cat_ref, cat_null, va_rf_some, show xt_mx 114 = 1 from rfl]
  unfold xr
  rw [e0]
  exact t114_0 e
-- CellTree$Job.leavesCollected()I
def b115_25 (F : Nat) (s0 : Int32) : xm Int32 := mr s0
theorem t115_25 {sc : Nat × (Nat → Int32)} {F : Nat} {r : Int32} {h' : xv_H} {s0 : Int32} {d0 : Option Value} {h : xv_H} (e : b115_25 F s0 h = some (r, h')) : xx sc 115 25 [d0] [.int s0] h (fun v g => v = some (.int r) ∧ g = h') := by
  unfold b115_25 at e
  exact d_iret rfl e
def b115_21 (F : Nat) (l0 : Option Nat) : xm Int32 := mb (nn l0) fun v1 => mb (gi 202 v1) fun v2 => b115_25 F v2
theorem t115_21 {sc : Nat × (Nat → Int32)} {F : Nat} {r : Int32} {h' : xv_H} {l0 : Option Nat} {h : xv_H} (e : b115_21 F l0 h = some (r, h')) : xx sc 115 21 [some (va_rf l0)] [] h (fun v g => v = some (.int r) ∧ g = h') := by
  unfold b115_21 at e
  refine xo_aload_nQ (w := l0) rfl rfl ?_
  refine d_nn e (fun v1 g e1 => ?_)
  subst g
  replace e := e1
  clear e1
  refine d_geti rfl e (fun v2 e => ?_)
  exact t115_25 e
def b115_17 (F : Nat) : xm Int32 := b115_25 F (0 : Int32)
theorem t115_17 {sc : Nat × (Nat → Int32)} {F : Nat} {r : Int32} {h' : xv_H} {d0 : Option Value} {h : xv_H} (e : b115_17 F h = some (r, h')) : xx sc 115 17 [d0] [] h (fun v g => v = some (.int r) ∧ g = h') := by
  unfold b115_17 at e
  refine xo_iconstV (x := 0) rfl (by decide) ?_
  refine xo_goto rfl rfl ?_
  exact t115_25 e
def b115_7 (F : Nat) (l0 : Option Nat) : xm Int32 := mb (nn l0) fun v1 => mb (gr 203 v1) fun v2 => mb (cq v2 (some (xv_SB + 6))) fun _ => if v2 = (some (xv_SB + 6)) then b115_21 F (some v1) else b115_17 F
theorem t115_7 {sc : Nat × (Nat → Int32)} {F : Nat} {r : Int32} {h' : xv_H} {l0 : Option Nat} {h : xv_H} (e : b115_7 F l0 h = some (r, h')) : xx sc 115 7 [some (va_rf l0)] [] h (fun v g => v = some (.int r) ∧ g = h') := by
  unfold b115_7 at e
  refine xo_aload_nQ (w := l0) rfl rfl ?_
  refine d_nn e (fun v1 g e1 => ?_)
  subst g
  replace e := e1
  clear e1
  refine d_getr rfl e (fun v2 e => ?_)
  refine xo_getsV rfl ?_
  refine d_acmp_eq (w1 := v2) (w2 := (some (xv_SB + 6))) rfl rfl e (fun _ e => ?_) (fun _ e => ?_)
  · exact t115_21 e
  · exact t115_17 e
def b115_0 (F : Nat) (l0 : Option Nat) : xm Int32 := mb (nn l0) fun v1 => mb (gi 207 v1) fun v2 => if v2 = 0 then b115_17 F else b115_7 F (some v1)
theorem t115_0 {sc : Nat × (Nat → Int32)} {F : Nat} {r : Int32} {h' : xv_H} {l0 : Option Nat} {h : xv_H} (e : b115_0 F l0 h = some (r, h')) : xx sc 115 0 [some (va_rf l0)] [] h (fun v g => v = some (.int r) ∧ g = h') := by
  unfold b115_0 at e
  refine xo_aload_nQ (w := l0) rfl rfl ?_
  refine d_nn e (fun v1 g e1 => ?_)
  subst g
  replace e := e1
  clear e1
  refine d_geti rfl e (fun v2 e => ?_)
  refine d_if_eq rfl rfl e (fun _ e => ?_) (fun _ e => ?_)
  · exact t115_17 e
  · exact t115_7 e
def m115 (F : Nat) (this : Nat) : xm Int32 := b115_0 F (some this)
theorem t115 {sc : Nat × (Nat → Int32)} {F : Nat} {this : Nat} {h : xv_H} {r : Int32} {h' : xv_H} (e : m115 F this h = some (r, h')) : xr sc 115 [.ref this] h (fun v g => v = some (.int r) ∧ g = h') := by
  have e0 : xv_ent (xt_mx 115) [.ref this] = [some (va_rf (some this))] := by simp [xv_ent, xv_sl, va_rf_cat, cat_int, cat_long, cat_ref, cat_null, va_rf_some, show xt_mx 115 = 1 from rfl]
  unfold xr
  rw [e0]
  exact t115_0 e
