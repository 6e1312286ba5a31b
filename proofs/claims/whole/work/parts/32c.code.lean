-- CellTree$Content.middle()I
def b41_0 (F : Nat) (l0 : Option Nat) : xm Int32 := mb (nn l0) fun v1 => mb (gr 603 v1) fun v2 => mb (nn v2) fun v3 => mb (li v3 (1 : Int32)) fun v4 => mr v4
theorem t41_0 {sc : Nat × (Nat → Int32)} {F : Nat} {r : Int32} {h' : xv_H} {l0 : Option Nat} {h : xv_H} (e : b41_0 F l0 h = some (r, h')) : xx sc 41 0 [some (va_rf l0)] [] h (fun v g => v = some (.int r) ∧ g = h') := by
  unfold b41_0 at e
  refine xo_aload_nQ (w := l0) rfl rfl ?_
  refine d_nn e (fun v1 g e1 => ?_)
  subst g
  replace e := e1
  clear e1
  refine d_getr rfl e (fun v2 e => ?_)
  refine xo_iconstV (x := 1) rfl (by decide) ?_
  refine d_nn e (fun v3 g e1 => ?_)
  subst g
  replace e := e1
  clear e1
  refine d_iald rfl e (fun v4 e => ?_)
  exact d_iret rfl e
def m41 (F : Nat) (this : Nat) : xm Int32 := b41_0 F (some this)
theorem t41 {sc : Nat × (Nat → Int32)} {F : Nat} {this : Nat} {h : xv_H} {r : Int32} {h' : xv_H} (e : m41 F this h = some (r, h')) : xr sc 41 [.ref this] h (fun v g => v = some (.int r) ∧ g = h') := by
  have e0 : xv_ent (xt_mx 41) [.ref this] = [some (va_rf (some this))] := by simp [xv_ent, xv_sl, va_rf_cat, cat_int, cat_long, cat_ref, cat_null, va_rf_some, show xt_mx 41 = 1 from rfl]
  unfold xr
  rw [e0]
  exact t41_0 e
-- java/util/Arrays.checkLength(II)V
def b45_37 (F : Nat) : xm Unit := mr ()
theorem t45_37 {sc : Nat × (Nat → Int32)} {F : Nat} {r : Unit} {h' : xv_H} {d0 d1 : Option Value} {h : xv_H} (e : b45_37 F h = some (r, h')) : xx sc 45 37 [d0, d1] [] h (fun v g => v = none ∧ g = h') := by
  unfold b45_37 at e
  exact d_ret rfl e
def b45_5 (F : Nat) : xm Unit := fun _ => none
theorem t45_5 {sc : Nat × (Nat → Int32)} {F : Nat} {r : Unit} {h' : xv_H} {d0 d1 : Option Value} {h : xv_H} (e : b45_5 F h = some (r, h')) : xx sc 45 5 [d0, d1] [] h (fun v g => v = none ∧ g = h') := by
  cases e
def b45_0 (F : Nat) (l0 : Int32) (l1 : Int32) : xm Unit := if l0 ≤ l1 then b45_37 F else b45_5 F
theorem t45_0 {sc : Nat × (Nat → Int32)} {F : Nat} {r : Unit} {h' : xv_H} {l0 : Int32} {l1 : Int32} {h : xv_H} (e : b45_0 F l0 l1 h = some (r, h')) : xx sc 45 0 [some (.int l0), some (.int l1)] [] h (fun v g => v = none ∧ g = h') := by
  unfold b45_0 at e
  refine xo_iload_n rfl rfl ?_
  refine xo_iload_n rfl rfl ?_
  refine d_icmp_ge rfl rfl e (fun _ e => ?_) (fun _ e => ?_)
  · exact t45_37 e
  · exact t45_5 e
def m45 (F : Nat) (p0 : Int32) (p1 : Int32) : xm Unit := b45_0 F p0 p1
theorem t45 {sc : Nat × (Nat → Int32)} {F : Nat} {p0 : Int32} {p1 : Int32} {h : xv_H} {r : Unit} {h' : xv_H} (e : m45 F p0 p1 h = some (r, h')) : xr sc 45 [.int p0, .int p1] h (fun v g => v = none ∧ g = h') := by
  have e0 : xv_ent (xt_mx 45) [.int p0, .int p1] = [some (.int p0), some (.int p1)] := by simp [xv_ent, xv_sl, va_rf_cat, cat_int, cat_long, cat_ref, cat_null, va_rf_some, show xt_mx 45 = 2 from rfl]
  unfold xr
  rw [e0]
  exact t45_0 e
-- java/util/Arrays.copyOfRangeInt([III)[I
def b44_0 (F : Nat) (l0 : Option Nat) (l1 : Int32) (l2 : Int32) : xm (Option Nat) := mb (m45 F l1 l2) fun _ => mb (na 100 (l2 - l1)) fun v1 => mb (nn l0) fun v2 => mb (len 100 0 v2) fun v3 => mb (cy 100 (if (l2 - l1) < (v3 - l1) then (l2 - l1) else (v3 - l1)) (0 : Int32) v1 l1 v2) fun _ => mr (some v1)
theorem t44_0 {sc : Nat × (Nat → Int32)} {F : Nat} {r : Option Nat} {h' : xv_H} {l0 : Option Nat} {l1 : Int32} {l2 : Int32} {d3 d4 : Option Value} {h : xv_H} (e : b44_0 F l0 l1 l2 h = some (r, h')) : xx sc 44 0 [some (va_rf l0), some (.int l1), some (.int l2), d3, d4] [] h (fun v g => v = some (va_rf r) ∧ g = h') := by
  unfold b44_0 at e
  refine xo_iload_n rfl rfl ?_
  refine xo_iload_n rfl rfl ?_
  refine d_static_v (av := [.int l1, .int l2]) (rest := []) rfl ⟨by decide, by decide, by decide⟩ rfl rfl (by simp [xv_fit, va_rf_cat, cat_int, cat_long, cat_ref, cat_null, show xt_mx 45 = 2 from rfl, show xt_lg 45 = [] from rfl]) (by simp [xv_room, va_rf_cat, cat_int, cat_long, cat_ref, cat_null]) (fun x0 h1 e1 => t45 e1) e (fun _ h e => ?_)
  refine xo_iload_n rfl rfl ?_
  refine xo_iload_n rfl rfl ?_
  refine xo_isub rfl ?_
  refine xo_istore_n rfl (Nat.le_of_ble_eq_true rfl) rfl ?_
  refine xo_iload_n rfl rfl ?_
  refine d_newa rfl e (fun v1 h e => ?_)
  refine xo_astoreQ (w := (some v1)) rfl (Nat.le_of_ble_eq_true rfl) rfl ?_
  refine xo_aload_nQ (w := l0) rfl rfl ?_
  refine xo_iload_n rfl rfl ?_
  refine xo_aloadQ (w := (some v1)) rfl rfl ?_
  refine xo_iconstV (x := 0) rfl (by decide) ?_
  refine xo_aload_nQ (w := l0) rfl rfl ?_
  refine d_nn e (fun v2 g e1 => ?_)
  subst g
  replace e := e1
  clear e1
  refine d_len rfl e (fun v3 e => ?_)
  refine xo_iload_n rfl rfl ?_
  refine xo_isub rfl ?_
  refine xo_iload_n rfl rfl ?_
  refine xo_min rfl (by simp [xv_room, va_rf_cat, cat_int, cat_long, cat_ref, cat_null]) ?_
  refine d_copy rfl (by simp [xv_room, va_rf_cat, cat_int, cat_long, cat_ref, cat_null]) e (fun h e => ?_)
  refine xo_aloadQ (w := (some v1)) rfl rfl ?_
  exact d_aret rfl e
def m44 (F : Nat) (p0 : Option Nat) (p1 : Int32) (p2 : Int32) : xm (Option Nat) := b44_0 F p0 p1 p2
theorem t44 {sc : Nat × (Nat → Int32)} {F : Nat} {p0 : Option Nat} {p1 : Int32} {p2 : Int32} {h : xv_H} {r : Option Nat} {h' : xv_H} (e : m44 F p0 p1 p2 h = some (r, h')) : xr sc 44 [va_rf p0, .int p1, .int p2] h (fun v g => v = some (va_rf r) ∧ g = h') := by
  have e0 : xv_ent (xt_mx 44) [va_rf p0, .int p1, .int p2] = [some (va_rf p0), some (.int p1), some (.int p2), none, none] := by simp [xv_ent, xv_sl, va_rf_cat, cat_int, cat_long, cat_ref, cat_null, va_rf_some, show xt_mx 44 = 5 from rfl]
  unfold xr
  rw [e0]
  exact t44_0 e
-- java/util/Arrays.copyOfRange([III)[I
def b43_17 (F : Nat) (l0 : Option Nat) : xm (Option Nat) := mb (nn l0) fun v1 => mb (cn v1) fun v2 => mb (ct 100 (some v2)) fun _ => mr (some v2)
theorem t43_17 {sc : Nat × (Nat → Int32)} {F : Nat} {r : Option Nat} {h' : xv_H} {l0 : Option Nat} {d1 d2 : Option Value} {h : xv_H} (e : b43_17 F l0 h = some (r, h')) : xx sc 43 17 [some (va_rf l0), d1, d2] [] h (fun v g => v = some (va_rf r) ∧ g = h') := by
  unfold b43_17 at e
  refine xo_aload_nQ (w := l0) rfl rfl ?_
  refine d_nn e (fun v1 g e1 => ?_)
  subst g
  replace e := e1
  clear e1
  refine d_clone rfl (by simp [xv_room, va_rf_cat, cat_int, cat_long, cat_ref, cat_null]) e (fun v2 h e => ?_)
  refine d_cast (w := (some v2)) rfl e (fun e => ?_)
  exact d_aret rfl e
def b43_10 (F : Nat) (l0 : Option Nat) (l1 : Int32) (l2 : Int32) : xm (Option Nat) := mb (m44 F l0 l1 l2) fun v1 => mr v1
theorem t43_10 {sc : Nat × (Nat → Int32)} {F : Nat} {r : Option Nat} {h' : xv_H} {l0 : Option Nat} {l1 : Int32} {l2 : Int32} {h : xv_H} (e : b43_10 F l0 l1 l2 h = some (r, h')) : xx sc 43 10 [some (va_rf l0), some (.int l1), some (.int l2)] [] h (fun v g => v = some (va_rf r) ∧ g = h') := by
  unfold b43_10 at e
  refine xo_aload_nQ (w := l0) rfl rfl ?_
  refine xo_iload_n rfl rfl ?_
  refine xo_iload_n rfl rfl ?_
  refine d_static_a (av := [va_rf l0, .int l1, .int l2]) (rest := []) rfl ⟨by decide, by decide, by decide⟩ rfl rfl (by simp [xv_fit, va_rf_cat, cat_int, cat_long, cat_ref, cat_null, show xt_mx 44 = 5 from rfl, show xt_lg 44 = [] from rfl]) (by simp [xv_room, va_rf_cat, cat_int, cat_long, cat_ref, cat_null]) (fun x0 h1 e1 => t44 e1) e (fun v1 h e => ?_)
  exact d_aret rfl e
def b43_4 (F : Nat) (l0 : Option Nat) (l1 : Int32) (l2 : Int32) : xm (Option Nat) := mb (nn l0) fun v1 => mb (len 100 0 v1) fun v2 => if l2 = v2 then b43_17 F (some v1) else b43_10 F (some v1) l1 l2
theorem t43_4 {sc : Nat × (Nat → Int32)} {F : Nat} {r : Option Nat} {h' : xv_H} {l0 : Option Nat} {l1 : Int32} {l2 : Int32} {h : xv_H} (e : b43_4 F l0 l1 l2 h = some (r, h')) : xx sc 43 4 [some (va_rf l0), some (.int l1), some (.int l2)] [] h (fun v g => v = some (va_rf r) ∧ g = h') := by
  unfold b43_4 at e
  refine xo_iload_n rfl rfl ?_
  refine xo_aload_nQ (w := l0) rfl rfl ?_
  refine d_nn e (fun v1 g e1 => ?_)
  subst g
  replace e := e1
  clear e1
  refine d_len rfl e (fun v2 e => ?_)
  refine d_icmp_eq rfl rfl e (fun _ e => ?_) (fun _ e => ?_)
  · exact t43_17 e
  · exact t43_10 e
def b43_0 (F : Nat) (l0 : Option Nat) (l1 : Int32) (l2 : Int32) : xm (Option Nat) := if ¬ l1 = 0 then b43_10 F l0 l1 l2 else b43_4 F l0 l1 l2
theorem t43_0 {sc : Nat × (Nat → Int32)} {F : Nat} {r : Option Nat} {h' : xv_H} {l0 : Option Nat} {l1 : Int32} {l2 : Int32} {h : xv_H} (e : b43_0 F l0 l1 l2 h = some (r, h')) : xx sc 43 0 [some (va_rf l0), some (.int l1), some (.int l2)] [] h (fun v g => v = some (va_rf r) ∧ g = h') := by
  unfold b43_0 at e
  refine xo_iload_n rfl rfl ?_
  refine d_if_ne rfl rfl e (fun _ e => ?_) (fun _ e => ?_)
  · exact t43_10 e
  · exact t43_4 e
def m43 (F : Nat) (p0 : Option Nat) (p1 : Int32) (p2 : Int32) : xm (Option Nat) := b43_0 F p0 p1 p2
theorem t43 {sc : Nat × (Nat → Int32)} {F : Nat} {p0 : Option Nat} {p1 : Int32} {p2 : Int32} {h : xv_H} {r : Option Nat} {h' : xv_H} (e : m43 F p0 p1 p2 h = some (r, h')) : xr sc 43 [va_rf p0, .int p1, .int p2] h (fun v g => v = some (va_rf r) ∧ g = h') := by
  have e0 : xv_ent (xt_mx 43) [va_rf p0, .int p1, .int p2] = [some (va_rf p0), some (.int p1), some (.int p2)] := by simp [xv_ent, xv_sl, va_rf_cat, cat_int, cat_long, cat_ref, cat_null, va_rf_some, show xt_mx 43 = 3 from rfl]
  unfold xr
  rw [e0]
  exact t43_0 e
-- CellTree$Content.cut()I
def b46_13 (F : Nat) (s0 : Int32) : xm Int32 := mr s0
theorem t46_13 {sc : Nat × (Nat → Int32)} {F : Nat} {r : Int32} {h' : xv_H} {s0 : Int32} {d0 : Option Value} {h : xv_H} (e : b46_13 F s0 h = some (r, h')) : xx sc 46 13 [d0] [.int s0] h (fun v g => v = some (.int r) ∧ g = h') := by
  unfold b46_13 at e
  exact d_iret rfl e
def b46_12 (F : Nat) : xm Int32 := b46_13 F (2 : Int32)
theorem t46_12 {sc : Nat × (Nat → Int32)} {F : Nat} {r : Int32} {h' : xv_H} {d0 : Option Value} {h : xv_H} (e : b46_12 F h = some (r, h')) : xx sc 46 12 [d0] [] h (fun v g => v = some (.int r) ∧ g = h') := by
  unfold b46_12 at e
  refine xo_iconstV (x := 2) rfl (by decide) ?_
  exact t46_13 e
def b46_8 (F : Nat) : xm Int32 := b46_13 F (1 : Int32)
theorem t46_8 {sc : Nat × (Nat → Int32)} {F : Nat} {r : Int32} {h' : xv_H} {d0 : Option Value} {h : xv_H} (e : b46_8 F h = some (r, h')) : xx sc 46 8 [d0] [] h (fun v g => v = some (.int r) ∧ g = h') := by
  unfold b46_8 at e
  refine xo_iconstV (x := 1) rfl (by decide) ?_
  refine xo_goto rfl rfl ?_
  exact t46_13 e
def b46_0 (F : Nat) (l0 : Option Nat) : xm Int32 := mb (nn l0) fun v1 => mb (gi 600 v1) fun v2 => if ¬ v2 = (1 : Int32) then b46_12 F else b46_8 F
theorem t46_0 {sc : Nat × (Nat → Int32)} {F : Nat} {r : Int32} {h' : xv_H} {l0 : Option Nat} {h : xv_H} (e : b46_0 F l0 h = some (r, h')) : xx sc 46 0 [some (va_rf l0)] [] h (fun v g => v = some (.int r) ∧ g = h') := by
  unfold b46_0 at e
  refine xo_aload_nQ (w := l0) rfl rfl ?_
  refine d_nn e (fun v1 g e1 => ?_)
  subst g
  replace e := e1
  clear e1
  refine d_geti rfl e (fun v2 e => ?_)
  refine xo_iconstV (x := 1) rfl (by decide) ?_
  refine d_icmp_ne rfl rfl e (fun _ e => ?_) (fun _ e => ?_)
  · exact t46_12 e
  · exact t46_8 e
def m46 (F : Nat) (this : Nat) : xm Int32 := b46_0 F (some this)
theorem t46 {sc : Nat × (Nat → Int32)} {F : Nat} {this : Nat} {h : xv_H} {r : Int32} {h' : xv_H} (e : m46 F this h = some (r, h')) : xr sc 46 [.ref this] h (fun v g => v = some (.int r) ∧ g = h') := by
  have e0 : xv_ent (xt_mx 46) [.ref this] = [some (va_rf (some this))] := by simp [xv_ent, xv_sl, va_rf_cat, cat_int, cat_long, cat_ref, cat_null, va_rf_some, show xt_mx 46 = 1 from rfl]
  unfold xr
  rw [e0]
  exact t46_0 e
-- CellTree$Content.leftHalf()LCellTree$Content;
def b42_0 (F : Nat) (l0 : Option Nat) : xm (Option Nat) := mb (nn l0) fun v1 => mb (gr 603 v1) fun v2 => mb (m43 F v2 (0 : Int32) (1 : Int32)) fun v3 => mb (nw 6 5) fun v4 => mb (gi 600 v1) fun v5 => mb (gi 601 v1) fun v6 => mb (vc 6 v1) fun _ => mb (m41 F v1) fun v7 => mb (gr 604 v1) fun v8 => mb (vc 6 v1) fun _ => mb (m46 F v1) fun v9 => mb (m43 F v8 (0 : Int32) v9) fun v10 => mb (m1 F v4 v5 v6 v7 v3 v10) fun _ => mr (some v4)
theorem t42_0 {sc : Nat × (Nat → Int32)} {F : Nat} {r : Option Nat} {h' : xv_H} {l0 : Option Nat} {d1 : Option Value} {h : xv_H} (e : b42_0 F l0 h = some (r, h')) : xx sc 42 0 [some (va_rf l0), d1] [] h (fun v g => v = some (va_rf r) ∧ g = h') := by
  unfold b42_0 at e
  refine xo_aload_nQ (w := l0) rfl rfl ?_
  refine d_nn e (fun v1 g e1 => ?_)
  subst g
  replace e := e1
  clear e1
  refine d_getr rfl e (fun v2 e => ?_)
  refine xo_iconstV (x := 0) rfl (by decide) ?_
  refine xo_iconstV (x := 1) rfl (by decide) ?_
  refine d_static_a (av := [va_rf v2, .int (0 : Int32), .int (1 : Int32)]) (rest := []) rfl ⟨by decide, by decide, by decide⟩ rfl rfl (by simp [xv_fit, va_rf_cat, cat_int, cat_long, cat_ref, cat_null, show xt_mx 43 = 3 from rfl, show xt_lg 43 = [] from rfl]) (by simp [xv_room, va_rf_cat, cat_int, cat_long, cat_ref, cat_null]) (fun x0 h1 e1 => t43 e1) e (fun v3 h e => ?_)
  refine xo_astore_nQ (w := v3) rfl (Nat.le_of_ble_eq_true rfl) rfl ?_
  refine d_new rfl e (fun v4 h e => ?_)
  refine xo_dup rfl (by first | rfl | exact va_rf_cat _) ?_
  refine xo_aload_nQ (w := (some v1)) rfl rfl ?_
  refine d_geti rfl e (fun v5 e => ?_)
  refine xo_aload_nQ (w := (some v1)) rfl rfl ?_
  refine d_geti rfl e (fun v6 e => ?_)
  refine xo_aload_nQ (w := (some v1)) rfl rfl ?_
  refine d_virtual_i (av := []) (rest := [.int v6, .int v5, va_rf (some v4), va_rf (some v4)]) rfl ⟨by decide, by decide⟩ rfl rfl (by simp [xv_fit, va_rf_cat, cat_int, cat_long, cat_ref, cat_null, show xt_mx 41 = 1 from rfl, show xt_lg 41 = [] from rfl]) (by simp [xv_room, va_rf_cat, cat_int, cat_long, cat_ref, cat_null]) (fun x0 h1 e1 => t41 e1) e (fun v7 h e => ?_)
  refine xo_aload_nQ (w := v3) rfl rfl ?_
  refine xo_aload_nQ (w := (some v1)) rfl rfl ?_
  refine d_getr rfl e (fun v8 e => ?_)
  refine xo_iconstV (x := 0) rfl (by decide) ?_
  refine xo_aload_nQ (w := (some v1)) rfl rfl ?_
  refine d_virtual_i (av := []) (rest := [.int (0 : Int32), va_rf v8, va_rf v3, .int v7, .int v6, .int v5, va_rf (some v4), va_rf (some v4)]) rfl ⟨by decide, by decide⟩ rfl rfl (by simp [xv_fit, va_rf_cat, cat_int, cat_long, cat_ref, cat_null, show xt_mx 46 = 1 from rfl, show xt_lg 46 = [] from rfl]) (by simp [xv_room, va_rf_cat, cat_int, cat_long, cat_ref, cat_null]) (fun x0 h1 e1 => t46 e1) e (fun v9 h e => ?_)
  refine d_static_a (av := [va_rf v8, .int (0 : Int32), .int v9]) (rest := [va_rf v3, .int v7, .int v6, .int v5, va_rf (some v4), va_rf (some v4)]) rfl ⟨by decide, by decide, by decide⟩ rfl rfl (by simp [xv_fit, va_rf_cat, cat_int, cat_long, cat_ref, cat_null, show xt_mx 43 = 3 from rfl, show xt_lg 43 = [] from rfl]) (by simp [xv_room, va_rf_cat, cat_int, cat_long, cat_ref, cat_null]) (fun x0 h1 e1 => t43 e1) e (fun v10 h e => ?_)
  refine d_special_v (av := [.int v5, .int v6, .int v7, va_rf v3, va_rf v10]) (rest := [va_rf (some v4)]) rfl (by decide) rfl rfl (by simp [xv_fit, va_rf_cat, cat_int, cat_long, cat_ref, cat_null, show xt_mx 1 = 6 from rfl, show xt_lg 1 = [] from rfl]) (by simp [xv_room, va_rf_cat, cat_int, cat_long, cat_ref, cat_null]) (fun x0 h1 e1 => t1 e1) e (fun _ h e => ?_)
  exact d_aret rfl e
def m42 (F : Nat) (this : Nat) : xm (Option Nat) := b42_0 F (some this)
theorem t42 {sc : Nat × (Nat → Int32)} {F : Nat} {this : Nat} {h : xv_H} {r : Option Nat} {h' : xv_H} (e : m42 F this h = some (r, h')) : xr sc 42 [.ref this] h (fun v g => v = some (va_rf r) ∧ g = h') := by
  have e0 : xv_ent (xt_mx 42) [.ref this] = [some (va_rf (some this)), none] := by simp [xv_ent, xv_sl, va_rf_cat, cat_int, cat_long, cat_ref, cat_null, va_rf_some, show xt_mx 42 = 2 from rfl]
  unfold xr
  rw [e0]
  exact t42_0 e
-- CellTree$Content.rightHalf()LCellTree$Content;
def b47_0 (F : Nat) (l0 : Option Nat) : xm (Option Nat) := mb (nn l0) fun v1 => mb (gr 603 v1) fun v2 => mb (vc 6 v1) fun _ => mb (m46 F v1) fun v3 => mb (gr 603 v1) fun v4 => mb (nn v4) fun v5 => mb (len 100 0 v5) fun v6 => mb (m43 F v2 v3 v6) fun v7 => mb (nw 6 5) fun v8 => mb (gi 600 v1) fun v9 => mb (vc 6 v1) fun _ => mb (m41 F v1) fun v10 => mb (gi 602 v1) fun v11 => mb (gr 604 v1) fun v12 => mb (vc 6 v1) fun _ => mb (m46 F v1) fun v13 => mb (gr 604 v1) fun v14 => mb (nn v14) fun v15 => mb (len 100 0 v15) fun v16 => mb (m43 F v12 v13 v16) fun v17 => mb (m1 F v8 v9 v10 v11 v7 v17) fun _ => mr (some v8)
theorem t47_0 {sc : Nat × (Nat → Int32)} {F : Nat} {r : Option Nat} {h' : xv_H} {l0 : Option Nat} {d1 : Option Value} {h : xv_H} (e : b47_0 F l0 h = some (r, h')) : xx sc 47 0 [some (va_rf l0), d1] [] h (fun v g => v = some (va_rf r) ∧ g = h') := by
  unfold b47_0 at e
  refine xo_aload_nQ (w := l0) rfl rfl ?_
  refine d_nn e (fun v1 g e1 => ?_)
  subst g
  replace e := e1
  clear e1
  refine d_getr rfl e (fun v2 e => ?_)
  refine xo_aload_nQ (w := (some v1)) rfl rfl ?_
  refine d_virtual_i (av := []) (rest := [va_rf v2]) rfl ⟨by decide, by decide⟩ rfl rfl (by simp [xv_fit, va_rf_cat, cat_int, cat_long, cat_ref, cat_null, show xt_mx 46 = 1 from rfl, show xt_lg 46 = [] from rfl]) (by simp [xv_room, va_rf_cat, cat_int, cat_long, cat_ref, cat_null]) (fun x0 h1 e1 => t46 e1) e (fun v3 h e => ?_)
  refine xo_aload_nQ (w := (some v1)) rfl rfl ?_
  refine d_getr rfl e (fun v4 e => ?_)
  refine d_nn e (fun v5 g e1 => ?_)
  subst g
  replace e := e1
  clear e1
  refine d_len rfl e (fun v6 e => ?_)
  refine d_static_a (av := [va_rf v2, .int v3, .int v6]) (rest := []) rfl ⟨by decide, by decide, by decide⟩ rfl rfl (by simp [xv_fit, va_rf_cat, cat_int, cat_long, cat_ref, cat_null, show xt_mx 43 = 3 from rfl, show xt_lg 43 = [] from rfl]) (by simp [xv_room, va_rf_cat, cat_int, cat_long, cat_ref, cat_null]) (fun x0 h1 e1 => t43 e1) e (fun v7 h e => ?_)
  refine xo_astore_nQ (w := v7) rfl (Nat.le_of_ble_eq_true rfl) rfl ?_
  refine d_new rfl e (fun v8 h e => ?_)
  refine xo_dup rfl (by first | rfl | exact va_rf_cat _) ?_
  refine xo_aload_nQ (w := (some v1)) rfl rfl ?_
  refine d_geti rfl e (fun v9 e => ?_)
  refine xo_aload_nQ (w := (some v1)) rfl rfl ?_
  refine d_virtual_i (av := []) (rest := [.int v9, va_rf (some v8), va_rf (some v8)]) rfl ⟨by decide, by decide⟩ rfl rfl (by simp [xv_fit, va_rf_cat, cat_int, cat_long, cat_ref, cat_null, show xt_mx 41 = 1 from rfl, show xt_lg 41 = [] from rfl]) (by simp [xv_room, va_rf_cat, cat_int, cat_long, cat_ref, cat_null]) (fun x0 h1 e1 => t41 e1) e (fun v10 h e => ?_)
  refine xo_aload_nQ (w := (some v1)) rfl rfl ?_
  refine d_geti rfl e (fun v11 e => ?_)
  refine xo_aload_nQ (w := v7) rfl rfl ?_
  refine xo_aload_nQ (w := (some v1)) rfl rfl ?_
  refine d_getr rfl e (fun v12 e => ?_)
  refine xo_aload_nQ (w := (some v1)) rfl rfl ?_
  refine d_virtual_i (av := []) (rest := [va_rf v12, va_rf v7, .int v11, .int v10, .int v9, va_rf (some v8), va_rf (some v8)]) rfl ⟨by decide, by decide⟩ rfl rfl (by simp [xv_fit, va_rf_cat, cat_int, cat_long, cat_ref, cat_null, show xt_mx 46 = 1 from rfl, show xt_lg 46 = [] from rfl]) (by simp [xv_room, va_rf_cat, cat_int, cat_long, cat_ref, cat_null]) (fun x0 h1 e1 => t46 e1) e (fun v13 h e => ?_)
  refine xo_aload_nQ (w := (some v1)) rfl rfl ?_
  refine d_getr rfl e (fun v14 e => ?_)
  refine d_nn e (fun v15 g e1 => ?_)
  subst g
  replace e := e1
  clear e1
  refine d_len rfl e (fun v16 e => ?_)
  refine d_static_a (av := [va_rf v12, .int v13, .int v16]) (rest := [va_rf v7, .int v11, .int v10, .int v9, va_rf (some v8), va_rf (some v8)]) rfl ⟨by decide, by decide, by decide⟩ rfl rfl (by simp [xv_fit, va_rf_cat, cat_int, cat_long, cat_ref, cat_null, show xt_mx 43 = 3 from rfl, show xt_lg 43 = [] from rfl]) (by simp [xv_room, va_rf_cat, cat_int, cat_long, cat_ref, cat_null]) (fun x0 h1 e1 => t43 e1) e (fun v17 h e => ?_)
  refine d_special_v (av := [.int v9, .int v10, .int v11, va_rf v7, va_rf v17]) (rest := [va_rf (some v8)]) rfl (by decide) rfl rfl (by simp [xv_fit, va_rf_cat, cat_int, cat_long, cat_ref, cat_null, show xt_mx 1 = 6 from rfl, show xt_lg 1 = [] from rfl]) (by simp [xv_room, va_rf_cat, cat_int, cat_long, cat_ref, cat_null]) (fun x0 h1 e1 => t1 e1) e (fun _ h e => ?_)
  exact d_aret rfl e
def m47 (F : Nat) (this : Nat) : xm (Option Nat) := b47_0 F (some this)
theorem t47 {sc : Nat × (Nat → Int32)} {F : Nat} {this : Nat} {h : xv_H} {r : Option Nat} {h' : xv_H} (e : m47 F this h = some (r, h')) : xr sc 47 [.ref this] h (fun v g => v = some (va_rf r) ∧ g = h') := by
  have e0 : xv_ent (xt_mx 47) [.ref this] = [some (va_rf (some this)), none] := by simp [xv_ent, xv_sl, va_rf_cat, cat_int, cat_long, cat_ref, cat_null, va_rf_some, show xt_mx 47 = 2 from rfl]
  unfold xr
  rw [e0]
  exact t47_0 e
-- CellTree$Client.splitRoot()V
def b39_0 (F : Nat) (l0 : Option Nat) : xm Unit := mb (nn l0) fun v1 => mb (vc 1 v1) fun _ => mb (m40 F v1) fun v2 => mb (vc 1 v1) fun _ => mb (m40 F v1) fun v3 => mb (na 100 (1 : Int32)) fun v4 => mb (gr 106 v1) fun v5 => mb (nn v5) fun v6 => mb (gr 701 v6) fun v7 => mb (nn v7) fun v8 => mb (vc 6 v8) fun _ => mb (m41 F v8) fun v9 => mb (si v4 (0 : Int32) v9) fun _ => mb (na 100 (2 : Int32)) fun v10 => mb (si v10 (0 : Int32) v2) fun _ => mb (si v10 (1 : Int32) v3) fun _ => mb (vc 1 v1) fun _ => mb (m23 F v1 (some (xv_SB + 14))) fun v11 => mb (gr 106 v1) fun v12 => mb (nn v12) fun v13 => mb (gr 701 v13) fun v14 => mb (nn v14) fun v15 => mb (vc 6 v15) fun _ => mb (m42 F v15) fun v16 => mb (nn v11) fun v17 => mb (vc 4 v17) fun _ => mb (m25 F v17 (some (xv_SB + 10)) v2 (0 : Int32) v16) fun _ => mb (gr 106 v1) fun v18 => mb (nn v18) fun v19 => mb (gr 701 v19) fun v20 => mb (nn v20) fun v21 => mb (vc 6 v21) fun _ => mb (m47 F v21) fun v22 => mb (vc 4 v17) fun _ => mb (m25 F v17 (some (xv_SB + 10)) v3 (0 : Int32) v22) fun _ => mb (gr 106 v1) fun v23 => mb (nn v23) fun v24 => mb (gi 700 v24) fun v25 => mb (nw 6 5) fun v26 => mb (m1 F v26 (2 : Int32) (0 : Int32) (100 : Int32) (some v4) (some v10)) fun _ => mb (vc 4 v17) fun _ => mb (m25 F v17 (some (xv_SB + 9)) (0 : Int32) v25 (some v26)) fun _ => mr ()
theorem t39_0 {sc : Nat × (Nat → Int32)} {F : Nat} {r : Unit} {h' : xv_H} {l0 : Option Nat} {d1 d2 d3 d4 d5 : Option Value} {h : xv_H} (e : b39_0 F l0 h = some (r, h')) : xx sc 39 0 [some (va_rf l0), d1, d2, d3, d4, d5] [] h (fun v g => v = none ∧ g = h') := by
  unfold b39_0 at e
  refine xo_aload_nQ (w := l0) rfl rfl ?_
  refine d_nn e (fun v1 g e1 => ?_)
  subst g
  replace e := e1
  clear e1
  refine d_virtual_i (av := []) (rest := []) rfl ⟨by decide, by decide⟩ rfl rfl (by simp [xv_fit, va_rf_cat, cat_int, cat_long, cat_ref, cat_null, show xt_mx 40 = 2 from rfl, show xt_lg 40 = [] from rfl]) (by simp [xv_room, va_rf_cat, cat_int, cat_long, cat_ref, cat_null]) (fun x0 h1 e1 => t40 e1) e (fun v2 h e => ?_)
  refine xo_istore_n rfl (Nat.le_of_ble_eq_true rfl) rfl ?_
  refine xo_aload_nQ (w := (some v1)) rfl rfl ?_
  refine d_virtual_i (av := []) (rest := []) rfl ⟨by decide, by decide⟩ rfl rfl (by simp [xv_fit, va_rf_cat, cat_int, cat_long, cat_ref, cat_null, show xt_mx 40 = 2 from rfl, show xt_lg 40 = [] from rfl]) (by simp [xv_room, va_rf_cat, cat_int, cat_long, cat_ref, cat_null]) (fun x0 h1 e1 => t40 e1) e (fun v3 h e => ?_)
  refine xo_istore_n rfl (Nat.le_of_ble_eq_true rfl) rfl ?_
  refine xo_iconstV (x := 1) rfl (by decide) ?_
  refine d_newa rfl e (fun v4 h e => ?_)
  refine xo_dup rfl (by first | rfl | exact va_rf_cat _) ?_
  refine xo_iconstV (x := 0) rfl (by decide) ?_
  refine xo_aload_nQ (w := (some v1)) rfl rfl ?_
  refine d_getr rfl e (fun v5 e => ?_)
  refine d_nn e (fun v6 g e1 => ?_)
  subst g
  replace e := e1
  clear e1
  refine d_getr rfl e (fun v7 e => ?_)
  refine d_nn e (fun v8 g e1 => ?_)
  subst g
  replace e := e1
  clear e1
  refine d_virtual_i (av := []) (rest := [.int (0 : Int32), va_rf (some v4), va_rf (some v4)]) rfl ⟨by decide, by decide⟩ rfl rfl (by simp [xv_fit, va_rf_cat, cat_int, cat_long, cat_ref, cat_null, show xt_mx 41 = 1 from rfl, show xt_lg 41 = [] from rfl]) (by simp [xv_room, va_rf_cat, cat_int, cat_long, cat_ref, cat_null]) (fun x0 h1 e1 => t41 e1) e (fun v9 h e => ?_)
  refine d_iast rfl e (fun h e => ?_)
  refine xo_astore_nQ (w := (some v4)) rfl (Nat.le_of_ble_eq_true rfl) rfl ?_
  refine xo_iconstV (x := 2) rfl (by decide) ?_
  refine d_newa rfl e (fun v10 h e => ?_)
  refine xo_dup rfl (by first | rfl | exact va_rf_cat _) ?_
  refine xo_iconstV (x := 0) rfl (by decide) ?_
  refine xo_iload_n rfl rfl ?_
  refine d_iast rfl e (fun h e => ?_)
  refine xo_dup rfl (by first | rfl | exact va_rf_cat _) ?_
  refine xo_iconstV (x := 1) rfl (by decide) ?_
  refine xo_iload_n rfl rfl ?_
  refine d_iast rfl e (fun h e => ?_)
  refine xo_astoreQ (w := (some v10)) rfl (Nat.le_of_ble_eq_true rfl) rfl ?_
  refine xo_aload_nQ (w := (some v1)) rfl rfl ?_
  refine xo_getsV rfl ?_
  refine d_virtual_a (av := [va_rf (some (xv_SB + 14))]) (rest := []) rfl ⟨by decide, by decide⟩ rfl rfl (by simp [xv_fit, va_rf_cat, cat_int, cat_long, cat_ref, cat_null, show xt_mx 23 = 2 from rfl, show xt_lg 23 = [] from rfl]) (by simp [xv_room, va_rf_cat, cat_int, cat_long, cat_ref, cat_null]) (fun x0 h1 e1 => t23 e1) e (fun v11 h e => ?_)
  refine xo_astoreQ (w := v11) rfl (Nat.le_of_ble_eq_true rfl) rfl ?_
  refine xo_aloadQ (w := v11) rfl rfl ?_
  refine xo_getsV rfl ?_
  refine xo_iload_n rfl rfl ?_
  refine xo_iconstV (x := 0) rfl (by decide) ?_
  refine xo_aload_nQ (w := (some v1)) rfl rfl ?_
  refine d_getr rfl e (fun v12 e => ?_)
  refine d_nn e (fun v13 g e1 => ?_)
  subst g
  replace e := e1
  clear e1
  refine d_getr rfl e (fun v14 e => ?_)
  refine d_nn e (fun v15 g e1 => ?_)
  subst g
  replace e := e1
  clear e1
  refine d_virtual_a (av := []) (rest := [.int (0 : Int32), .int v2, va_rf (some (xv_SB + 10)), va_rf v11]) rfl ⟨by decide, by decide⟩ rfl rfl (by simp [xv_fit, va_rf_cat, cat_int, cat_long, cat_ref, cat_null, show xt_mx 42 = 2 from rfl, show xt_lg 42 = [] from rfl]) (by simp [xv_room, va_rf_cat, cat_int, cat_long, cat_ref, cat_null]) (fun x0 h1 e1 => t42 e1) e (fun v16 h e => ?_)
  refine d_nn e (fun v17 g e1 => ?_)
  subst g
  replace e := e1
  clear e1
  refine d_virtual_v (av := [va_rf (some (xv_SB + 10)), .int v2, .int (0 : Int32), va_rf v16]) (rest := []) rfl ⟨by decide, by decide⟩ rfl rfl (by simp [xv_fit, va_rf_cat, cat_int, cat_long, cat_ref, cat_null, show xt_mx 25 = 5 from rfl, show xt_lg 25 = [] from rfl]) (by simp [xv_room, va_rf_cat, cat_int, cat_long, cat_ref, cat_null]) (fun x0 h1 e1 => t25 e1) e (fun _ h e => ?_)
  refine xo_aloadQ (w := (some v17)) rfl rfl ?_
  refine xo_getsV rfl ?_
  refine xo_iload_n rfl rfl ?_
  refine xo_iconstV (x := 0) rfl (by decide) ?_
  refine xo_aload_nQ (w := (some v1)) rfl rfl ?_
  refine d_getr rfl e (fun v18 e => ?_)
  refine d_nn e (fun v19 g e1 => ?_)
  subst g
  replace e := e1
  clear e1
  refine d_getr rfl e (fun v20 e => ?_)
  refine d_nn e (fun v21 g e1 => ?_)
  subst g
  replace e := e1
  clear e1
  refine d_virtual_a (av := []) (rest := [.int (0 : Int32), .int v3, va_rf (some (xv_SB + 10)), va_rf (some v17)]) rfl ⟨by decide, by decide⟩ rfl rfl (by simp [xv_fit, va_rf_cat, cat_int, cat_long, cat_ref, cat_null, show xt_mx 47 = 2 from rfl, show xt_lg 47 = [] from rfl]) (by simp [xv_room, va_rf_cat, cat_int, cat_long, cat_ref, cat_null]) (fun x0 h1 e1 => t47 e1) e (fun v22 h e => ?_)
  refine d_virtual_v (av := [va_rf (some (xv_SB + 10)), .int v3, .int (0 : Int32), va_rf v22]) (rest := []) rfl ⟨by decide, by decide⟩ rfl rfl (by simp [xv_fit, va_rf_cat, cat_int, cat_long, cat_ref, cat_null, show xt_mx 25 = 5 from rfl, show xt_lg 25 = [] from rfl]) (by simp [xv_room, va_rf_cat, cat_int, cat_long, cat_ref, cat_null]) (fun x0 h1 e1 => t25 e1) e (fun _ h e => ?_)
  refine xo_aloadQ (w := (some v17)) rfl rfl ?_
  refine xo_getsV rfl ?_
  refine xo_iconstV (x := 0) rfl (by decide) ?_
  refine xo_aload_nQ (w := (some v1)) rfl rfl ?_
  refine d_getr rfl e (fun v23 e => ?_)
  refine d_nn e (fun v24 g e1 => ?_)
  subst g
  replace e := e1
  clear e1
  refine d_geti rfl e (fun v25 e => ?_)
  refine d_new rfl e (fun v26 h e => ?_)
  refine xo_dup rfl (by first | rfl | exact va_rf_cat _) ?_
  refine xo_iconstV (x := 2) rfl (by decide) ?_
  refine xo_iconstV (x := 0) rfl (by decide) ?_
  refine xo_bipushV (x := 100) rfl (by decide) ?_
  refine xo_aload_nQ (w := (some v4)) rfl rfl ?_
  refine xo_aloadQ (w := (some v10)) rfl rfl ?_
  refine d_special_v (av := [.int (2 : Int32), .int (0 : Int32), .int (100 : Int32), va_rf (some v4), va_rf (some v10)]) (rest := [va_rf (some v26), .int v25, .int (0 : Int32), va_rf (some (xv_SB + 9)), va_rf (some v17)]) rfl (by decide) rfl rfl (by simp [xv_fit, va_rf_cat, cat_int, cat_long, cat_ref, cat_null, show xt_mx 1 = 6 from rfl, show xt_lg 1 = [] from rfl]) (by simp [xv_room, va_rf_cat, cat_int, cat_long, cat_ref, cat_null]) (fun x0 h1 e1 => t1 e1) e (fun _ h e => ?_)
  refine d_virtual_v (av := [va_rf (some (xv_SB + 9)), .int (0 : Int32), .int v25, va_rf (some v26)]) (rest := []) rfl ⟨by decide, by decide⟩ rfl rfl (by simp [xv_fit, va_rf_cat, cat_int, cat_long, cat_ref, cat_null, show xt_mx 25 = 5 from rfl, show xt_lg 25 = [] from rfl]) (by simp [xv_room, va_rf_cat, cat_int, cat_long, cat_ref, cat_null]) (fun x0 h1 e1 => t25 e1) e (fun _ h e => ?_)
  exact d_ret rfl e
def m39 (F : Nat) (this : Nat) : xm Unit := b39_0 F (some this)
theorem t39 {sc : Nat × (Nat → Int32)} {F : Nat} {this : Nat} {h : xv_H} {r : Unit} {h' : xv_H} (e : m39 F this h = some (r, h')) : xr sc 39 [.ref this] h (fun v g => v = none ∧ g = h') := by
  have e0 : xv_ent (xt_mx 39) [.ref this] = [some (va_rf (some this)), none, none, none, none, none] := by simp [xv_ent, xv_sl, va_rf_cat, cat_int, cat_long, cat_ref, cat_null, va_rf_some, show xt_mx 39 = 6 from rfl]
  unfold xr
  rw [e0]
  exact t39_0 e
-- CellTree$Content.withChildBehind(III)LCellTree$Content;
def b49_39 (F : Nat) (l0 : Option Nat) (l2 : Int32) (l3 : Int32) (l4 : Int32) : xm (Option Nat) := mb (nn l0) fun v1 => mb (vc 6 v1) fun _ => mb (m31 F v1 l2) fun v2 => mb (nw 6 5) fun v3 => mb (gi 600 v1) fun v4 => mb (gi 601 v1) fun v5 => mb (gi 602 v1) fun v6 => mb (gr 603 v1) fun v7 => mb (m32 F v7 v2 l2) fun v8 => mb (gr 604 v1) fun v9 => mb (m32 F v9 l4 l3) fun v10 => mb (m1 F v3 v4 v5 v6 v8 v10) fun _ => mr (some v3)
theorem t49_39 {sc : Nat × (Nat → Int32)} {F : Nat} {r : Option Nat} {h' : xv_H} {l0 : Option Nat} {l2 : Int32} {l3 : Int32} {l4 : Int32} {d1 d5 : Option Value} {h : xv_H} (e : b49_39 F l0 l2 l3 l4 h = some (r, h')) : xx sc 49 39 [some (va_rf l0), d1, some (.int l2), some (.int l3), some (.int l4), d5] [] h (fun v g => v = some (va_rf r) ∧ g = h') := by
  unfold b49_39 at e
  refine xo_aload_nQ (w := l0) rfl rfl ?_
  refine xo_iload_n rfl rfl ?_
  refine d_nn e (fun v1 g e1 => ?_)
  subst g
  replace e := e1
  clear e1
  refine d_virtual_i (av := [.int l2]) (rest := []) rfl ⟨by decide, by decide⟩ rfl rfl (by simp [xv_fit, va_rf_cat, cat_int, cat_long, cat_ref, cat_null, show xt_mx 31 = 4 from rfl, show xt_lg 31 = [] from rfl]) (by simp [xv_room, va_rf_cat, cat_int, cat_long, cat_ref, cat_null]) (fun x0 h1 e1 => t31 e1) e (fun v2 h e => ?_)
  refine xo_istore rfl (Nat.le_of_ble_eq_true rfl) rfl ?_
  refine d_new rfl e (fun v3 h e => ?_)
  refine xo_dup rfl (by first | rfl | exact va_rf_cat _) ?_
  refine xo_aload_nQ (w := (some v1)) rfl rfl ?_
  refine d_geti rfl e (fun v4 e => ?_)
  refine xo_aload_nQ (w := (some v1)) rfl rfl ?_
  refine d_geti rfl e (fun v5 e => ?_)
  refine xo_aload_nQ (w := (some v1)) rfl rfl ?_
  refine d_geti rfl e (fun v6 e => ?_)
  refine xo_aload_nQ (w := (some v1)) rfl rfl ?_
  refine d_getr rfl e (fun v7 e => ?_)
  refine xo_iload rfl rfl ?_
  refine xo_iload_n rfl rfl ?_
  refine d_static_a (av := [va_rf v7, .int v2, .int l2]) (rest := [.int v6, .int v5, .int v4, va_rf (some v3), va_rf (some v3)]) rfl ⟨by decide, by decide, by decide⟩ rfl rfl (by simp [xv_fit, va_rf_cat, cat_int, cat_long, cat_ref, cat_null, show xt_mx 32 = 4 from rfl, show xt_lg 32 = [] from rfl]) (by simp [xv_room, va_rf_cat, cat_int, cat_long, cat_ref, cat_null]) (fun x0 h1 e1 => t32 e1) e (fun v8 h e => ?_)
  refine xo_aload_nQ (w := (some v1)) rfl rfl ?_
  refine d_getr rfl e (fun v9 e => ?_)
  refine xo_iload rfl rfl ?_
  refine xo_iload_n rfl rfl ?_
  refine d_static_a (av := [va_rf v9, .int l4, .int l3]) (rest := [va_rf v8, .int v6, .int v5, .int v4, va_rf (some v3), va_rf (some v3)]) rfl ⟨by decide, by decide, by decide⟩ rfl rfl (by simp [xv_fit, va_rf_cat, cat_int, cat_long, cat_ref, cat_null, show xt_mx 32 = 4 from rfl, show xt_lg 32 = [] from rfl]) (by simp [xv_room, va_rf_cat, cat_int, cat_long, cat_ref, cat_null]) (fun x0 h1 e1 => t32 e1) e (fun v10 h e => ?_)
  refine d_special_v (av := [.int v4, .int v5, .int v6, va_rf v8, va_rf v10]) (rest := [va_rf (some v3)]) rfl (by decide) rfl rfl (by simp [xv_fit, va_rf_cat, cat_int, cat_long, cat_ref, cat_null, show xt_mx 1 = 6 from rfl, show xt_lg 1 = [] from rfl]) (by simp [xv_room, va_rf_cat, cat_int, cat_long, cat_ref, cat_null]) (fun x0 h1 e1 => t1 e1) e (fun _ h e => ?_)
  exact d_aret rfl e
def b49_33 (k6 : Option Nat → Int32 → Int32 → Int32 → Int32 → Int32 → xm (Option Nat)) (F : Nat) (l0 : Option Nat) (l1 : Int32) (l2 : Int32) (l3 : Int32) (l4 : Int32) (l5 : Int32) : xm (Option Nat) := k6 l0 l1 l2 l3 l4 (l5 + (1 : Int32))
theorem t49_33 {sc : Nat × (Nat → Int32)} {F : Nat} {r : Option Nat} {h' : xv_H} {k6 : Option Nat → Int32 → Int32 → Int32 → Int32 → Int32 → xm (Option Nat)} (hk6 : ∀ (l0 : Option Nat) (l1 : Int32) (l2 : Int32) (l3 : Int32) (l4 : Int32) (l5 : Int32) (h : xv_H), k6 l0 l1 l2 l3 l4 l5 h = some (r, h') → xx sc 49 6 [some (va_rf l0), some (.int l1), some (.int l2), some (.int l3), some (.int l4), some (.int l5)] [] h (fun v g => v = some (va_rf r) ∧ g = h')) {l0 : Option Nat} {l1 : Int32} {l2 : Int32} {l3 : Int32} {l4 : Int32} {l5 : Int32} {h : xv_H} (e : b49_33 k6 F l0 l1 l2 l3 l4 l5 h = some (r, h')) : xx sc 49 33 [some (va_rf l0), some (.int l1), some (.int l2), some (.int l3), some (.int l4), some (.int l5)] [] h (fun v g => v = some (va_rf r) ∧ g = h') := by
  unfold b49_33 at e
  refine xo_iincV (z := 1) rfl (by decide) rfl (Nat.le_of_ble_eq_true rfl) rfl ?_
  refine xo_goto rfl rfl ?_
  exact hk6 _ _ _ _ _ _ _ e
def b49_27 (k6 : Option Nat → Int32 → Int32 → Int32 → Int32 → Int32 → xm (Option Nat)) (F : Nat) (l0 : Option Nat) (l1 : Int32) (l2 : Int32) (l3 : Int32) (l5 : Int32) : xm (Option Nat) := b49_33 k6 F l0 l1 l2 l3 (l5 + (1 : Int32)) l5
theorem t49_27 {sc : Nat × (Nat → Int32)} {F : Nat} {r : Option Nat} {h' : xv_H} {k6 : Option Nat → Int32 → Int32 → Int32 → Int32 → Int32 → xm (Option Nat)} (hk6 : ∀ (l0 : Option Nat) (l1 : Int32) (l2 : Int32) (l3 : Int32) (l4 : Int32) (l5 : Int32) (h : xv_H), k6 l0 l1 l2 l3 l4 l5 h = some (r, h') → xx sc 49 6 [some (va_rf l0), some (.int l1), some (.int l2), some (.int l3), some (.int l4), some (.int l5)] [] h (fun v g => v = some (va_rf r) ∧ g = h')) {l0 : Option Nat} {l1 : Int32} {l2 : Int32} {l3 : Int32} {l5 : Int32} {d4 : Option Value} {h : xv_H} (e : b49_27 k6 F l0 l1 l2 l3 l5 h = some (r, h')) : xx sc 49 27 [some (va_rf l0), some (.int l1), some (.int l2), some (.int l3), d4, some (.int l5)] [] h (fun v g => v = some (va_rf r) ∧ g = h') := by
  unfold b49_27 at e
  refine xo_iload rfl rfl ?_
  refine xo_iconstV (x := 1) rfl (by decide) ?_
  refine xo_iadd rfl ?_
  refine xo_istore rfl (Nat.le_of_ble_eq_true rfl) rfl ?_
  exact t49_33 hk6 e
def b49_16 (k6 : Option Nat → Int32 → Int32 → Int32 → Int32 → Int32 → xm (Option Nat)) (F : Nat) (l0 : Option Nat) (l1 : Int32) (l2 : Int32) (l3 : Int32) (l4 : Int32) (l5 : Int32) : xm (Option Nat) := mb (nn l0) fun v1 => mb (gr 604 v1) fun v2 => mb (nn v2) fun v3 => mb (li v3 l5) fun v4 => if ¬ v4 = l1 then b49_33 k6 F (some v1) l1 l2 l3 l4 l5 else b49_27 k6 F (some v1) l1 l2 l3 l5
theorem t49_16 {sc : Nat × (Nat → Int32)} {F : Nat} {r : Option Nat} {h' : xv_H} {k6 : Option Nat → Int32 → Int32 → Int32 → Int32 → Int32 → xm (Option Nat)} (hk6 : ∀ (l0 : Option Nat) (l1 : Int32) (l2 : Int32) (l3 : Int32) (l4 : Int32) (l5 : Int32) (h : xv_H), k6 l0 l1 l2 l3 l4 l5 h = some (r, h') → xx sc 49 6 [some (va_rf l0), some (.int l1), some (.int l2), some (.int l3), some (.int l4), some (.int l5)] [] h (fun v g => v = some (va_rf r) ∧ g = h')) {l0 : Option Nat} {l1 : Int32} {l2 : Int32} {l3 : Int32} {l4 : Int32} {l5 : Int32} {h : xv_H} (e : b49_16 k6 F l0 l1 l2 l3 l4 l5 h = some (r, h')) : xx sc 49 16 [some (va_rf l0), some (.int l1), some (.int l2), some (.int l3), some (.int l4), some (.int l5)] [] h (fun v g => v = some (va_rf r) ∧ g = h') := by
  unfold b49_16 at e
  refine xo_aload_nQ (w := l0) rfl rfl ?_
  refine d_nn e (fun v1 g e1 => ?_)
  subst g
  replace e := e1
  clear e1
  refine d_getr rfl e (fun v2 e => ?_)
  refine xo_iload rfl rfl ?_
  refine d_nn e (fun v3 g e1 => ?_)
  subst g
  replace e := e1
  clear e1
  refine d_iald rfl e (fun v4 e => ?_)
  refine xo_iload_n rfl rfl ?_
  refine d_icmp_ne rfl rfl e (fun _ e => ?_) (fun _ e => ?_)
  · exact t49_33 hk6 e
  · exact t49_27 hk6 e
def b49_6 (F : Nat) : Nat → Option Nat → Int32 → Int32 → Int32 → Int32 → Int32 → xm (Option Nat)
  | 0, _, _, _, _, _, _ => fun _ => none
  | f + 1, l0, l1, l2, l3, l4, l5 => mb (nn l0) fun v1 => mb (gr 604 v1) fun v2 => mb (nn v2) fun v3 => mb (len 100 0 v3) fun v4 => if v4 ≤ l5 then b49_39 F (some v1) l2 l3 l4 else b49_16 (b49_6 F f) F (some v1) l1 l2 l3 l4 l5
theorem t49_6 {sc : Nat × (Nat → Int32)} {F : Nat} {r : Option Nat} {h' : xv_H} : ∀ (f : Nat) (l0 : Option Nat) (l1 : Int32) (l2 : Int32) (l3 : Int32) (l4 : Int32) (l5 : Int32) (h : xv_H), b49_6 F f l0 l1 l2 l3 l4 l5 h = some (r, h') → xx sc 49 6 [some (va_rf l0), some (.int l1), some (.int l2), some (.int l3), some (.int l4), some (.int l5)] [] h (fun v g => v = some (va_rf r) ∧ g = h') := by
  intro f
  induction f with
  | zero => intro l0 l1 l2 l3 l4 l5 h e; cases e
  | succ f ih =>
    intro l0 l1 l2 l3 l4 l5 h e
    unfold b49_6 at e
    refine xo_iload rfl rfl ?_
    refine xo_aload_nQ (w := l0) rfl rfl ?_
    refine d_nn e (fun v1 g e1 => ?_)
    subst g
    replace e := e1
    clear e1
    refine d_getr rfl e (fun v2 e => ?_)
    refine d_nn e (fun v3 g e1 => ?_)
    subst g
    replace e := e1
    clear e1
    refine d_len rfl e (fun v4 e => ?_)
    refine d_icmp_ge rfl rfl e (fun _ e => ?_) (fun _ e => ?_)
    · exact t49_39 e
    · exact t49_16 (fun a0 a1 a2 a3 a4 a5 h e => ih a0 a1 a2 a3 a4 a5 h e) e
def b49_0 (F : Nat) (l0 : Option Nat) (l1 : Int32) (l2 : Int32) (l3 : Int32) : xm (Option Nat) := b49_6 F F l0 l1 l2 l3 (0 : Int32) (0 : Int32)
theorem t49_0 {sc : Nat × (Nat → Int32)} {F : Nat} {r : Option Nat} {h' : xv_H} {l0 : Option Nat} {l1 : Int32} {l2 : Int32} {l3 : Int32} {d4 d5 : Option Value} {h : xv_H} (e : b49_0 F l0 l1 l2 l3 h = some (r, h')) : xx sc 49 0 [some (va_rf l0), some (.int l1), some (.int l2), some (.int l3), d4, d5] [] h (fun v g => v = some (va_rf r) ∧ g = h') := by
  unfold b49_0 at e
  refine xo_iconstV (x := 0) rfl (by decide) ?_
  refine xo_istore rfl (Nat.le_of_ble_eq_true rfl) rfl ?_
  refine xo_iconstV (x := 0) rfl (by decide) ?_
  refine xo_istore rfl (Nat.le_of_ble_eq_true rfl) rfl ?_
  exact t49_6 F _ _ _ _ _ _ _ e
def m49 (F : Nat) (this : Nat) (p0 : Int32) (p1 : Int32) (p2 : Int32) : xm (Option Nat) := b49_0 F (some this) p0 p1 p2
theorem t49 {sc : Nat × (Nat → Int32)} {F : Nat} {this : Nat} {p0 : Int32} {p1 : Int32} {p2 : Int32} {h : xv_H} {r : Option Nat} {h' : xv_H} (e : m49 F this p0 p1 p2 h = some (r, h')) : xr sc 49 [.ref this, .int p0, .int p1, .int p2] h (fun v g => v = some (va_rf r) ∧ g = h') := by
  have e0 : xv_ent (xt_mx 49) [.ref this, .int p0, .int p1, .int p2] = [some (va_rf (some this)), some (.int p0), some (.int p1), some (.int p2), none, none] := by simp [xv_ent, xv_sl, va_rf_cat, cat_int, cat_long, cat_ref, cat_null, va_rf_some, show xt_mx 49 = 6 from rfl]
  unfold xr
  rw [e0]
  exact t49_0 e
-- CellTree$Client.splitBelow(ILCellTree$Cell;)V
def b48_0 (F : Nat) (l0 : Option Nat) (l1 : Int32) (l2 : Option Nat) : xm Unit := mb (nn l0) fun v1 => mb (vc 1 v1) fun _ => mb (m19 F v1) fun v2 => mb (vc 1 v1) fun _ => mb (m40 F v1) fun v3 => mb (nn l2) fun v4 => mb (gr 701 v4) fun v5 => mb (gr 106 v1) fun v6 => mb (nn v6) fun v7 => mb (gr 701 v7) fun v8 => mb (nn v8) fun v9 => mb (vc 6 v9) fun _ => mb (m41 F v9) fun v10 => mb (nn v5) fun v11 => mb (vc 6 v11) fun _ => mb (m49 F v11 v2 v10 v3) fun v12 => mb (vc 1 v1) fun _ => mb (m23 F v1 (some (xv_SB + 14))) fun v13 => mb (gr 106 v1) fun v14 => mb (nn v14) fun v15 => mb (gi 700 v15) fun v16 => mb (gr 106 v1) fun v17 => mb (nn v17) fun v18 => mb (gr 701 v18) fun v19 => mb (nn v19) fun v20 => mb (vc 6 v20) fun _ => mb (m42 F v20) fun v21 => mb (nn v13) fun v22 => mb (vc 4 v22) fun _ => mb (m25 F v22 (some (xv_SB + 9)) v2 v16 v21) fun _ => mb (gr 106 v1) fun v23 => mb (nn v23) fun v24 => mb (gr 701 v24) fun v25 => mb (nn v25) fun v26 => mb (vc 6 v26) fun _ => mb (m47 F v26) fun v27 => mb (vc 4 v22) fun _ => mb (m25 F v22 (some (xv_SB + 10)) v3 (0 : Int32) v27) fun _ => mb (gi 700 v4) fun v28 => mb (vc 4 v22) fun _ => mb (m25 F v22 (some (xv_SB + 9)) l1 v28 v12) fun _ => mr ()
theorem t48_0 {sc : Nat × (Nat → Int32)} {F : Nat} {r : Unit} {h' : xv_H} {l0 : Option Nat} {l1 : Int32} {l2 : Option Nat} {d3 d4 d5 d6 : Option Value} {h : xv_H} (e : b48_0 F l0 l1 l2 h = some (r, h')) : xx sc 48 0 [some (va_rf l0), some (.int l1), some (va_rf l2), d3, d4, d5, d6] [] h (fun v g => v = none ∧ g = h') := by
  unfold b48_0 at e
  refine xo_aload_nQ (w := l0) rfl rfl ?_
  refine d_nn e (fun v1 g e1 => ?_)
  subst g
  replace e := e1
  clear e1
  refine d_virtual_i (av := []) (rest := []) rfl ⟨by decide, by decide⟩ rfl rfl (by simp [xv_fit, va_rf_cat, cat_int, cat_long, cat_ref, cat_null, show xt_mx 19 = 1 from rfl, show xt_lg 19 = [] from rfl]) (by simp [xv_room, va_rf_cat, cat_int, cat_long, cat_ref, cat_null]) (fun x0 h1 e1 => t19 e1) e (fun v2 h e => ?_)
  refine xo_istore_n rfl (Nat.le_of_ble_eq_true rfl) rfl ?_
  refine xo_aload_nQ (w := (some v1)) rfl rfl ?_
  refine d_virtual_i (av := []) (rest := []) rfl ⟨by decide, by decide⟩ rfl rfl (by simp [xv_fit, va_rf_cat, cat_int, cat_long, cat_ref, cat_null, show xt_mx 40 = 2 from rfl, show xt_lg 40 = [] from rfl]) (by simp [xv_room, va_rf_cat, cat_int, cat_long, cat_ref, cat_null]) (fun x0 h1 e1 => t40 e1) e (fun v3 h e => ?_)
  refine xo_istore rfl (Nat.le_of_ble_eq_true rfl) rfl ?_
  refine xo_aload_nQ (w := l2) rfl rfl ?_
  refine d_nn e (fun v4 g e1 => ?_)
  subst g
  replace e := e1
  clear e1
  refine d_getr rfl e (fun v5 e => ?_)
  refine xo_iload_n rfl rfl ?_
  refine xo_aload_nQ (w := (some v1)) rfl rfl ?_
  refine d_getr rfl e (fun v6 e => ?_)
  refine d_nn e (fun v7 g e1 => ?_)
  subst g
  replace e := e1
  clear e1
  refine d_getr rfl e (fun v8 e => ?_)
  refine d_nn e (fun v9 g e1 => ?_)
  subst g
  replace e := e1
  clear e1
  refine d_virtual_i (av := []) (rest := [.int v2, va_rf v5]) rfl ⟨by decide, by decide⟩ rfl rfl (by simp [xv_fit, va_rf_cat, cat_int, cat_long, cat_ref, cat_null, show xt_mx 41 = 1 from rfl, show xt_lg 41 = [] from rfl]) (by simp [xv_room, va_rf_cat, cat_int, cat_long, cat_ref, cat_null]) (fun x0 h1 e1 => t41 e1) e (fun v10 h e => ?_)
  refine xo_iload rfl rfl ?_
  refine d_nn e (fun v11 g e1 => ?_)
  subst g
  replace e := e1
  clear e1
  refine d_virtual_a (av := [.int v2, .int v10, .int v3]) (rest := []) rfl ⟨by decide, by decide⟩ rfl rfl (by simp [xv_fit, va_rf_cat, cat_int, cat_long, cat_ref, cat_null, show xt_mx 49 = 6 from rfl, show xt_lg 49 = [] from rfl]) (by simp [xv_room, va_rf_cat, cat_int, cat_long, cat_ref, cat_null]) (fun x0 h1 e1 => t49 e1) e (fun v12 h e => ?_)
  refine xo_astoreQ (w := v12) rfl (Nat.le_of_ble_eq_true rfl) rfl ?_
  refine xo_aload_nQ (w := (some v1)) rfl rfl ?_
  refine xo_getsV rfl ?_
  refine d_virtual_a (av := [va_rf (some (xv_SB + 14))]) (rest := []) rfl ⟨by decide, by decide⟩ rfl rfl (by simp [xv_fit, va_rf_cat, cat_int, cat_long, cat_ref, cat_null, show xt_mx 23 = 2 from rfl, show xt_lg 23 = [] from rfl]) (by simp [xv_room, va_rf_cat, cat_int, cat_long, cat_ref, cat_null]) (fun x0 h1 e1 => t23 e1) e (fun v13 h e => ?_)
  refine xo_astoreQ (w := v13) rfl (Nat.le_of_ble_eq_true rfl) rfl ?_
  refine xo_aloadQ (w := v13) rfl rfl ?_
  refine xo_getsV rfl ?_
  refine xo_iload_n rfl rfl ?_
  refine xo_aload_nQ (w := (some v1)) rfl rfl ?_
  refine d_getr rfl e (fun v14 e => ?_)
  refine d_nn e (fun v15 g e1 => ?_)
  subst g
  replace e := e1
  clear e1
  refine d_geti rfl e (fun v16 e => ?_)
  refine xo_aload_nQ (w := (some v1)) rfl rfl ?_
  refine d_getr rfl e (fun v17 e => ?_)
  refine d_nn e (fun v18 g e1 => ?_)
  subst g
  replace e := e1
  clear e1
  refine d_getr rfl e (fun v19 e => ?_)
  refine d_nn e (fun v20 g e1 => ?_)
  subst g
  replace e := e1
  clear e1
  refine d_virtual_a (av := []) (rest := [.int v16, .int v2, va_rf (some (xv_SB + 9)), va_rf v13]) rfl ⟨by decide, by decide⟩ rfl rfl (by simp [xv_fit, va_rf_cat, cat_int, cat_long, cat_ref, cat_null, show xt_mx 42 = 2 from rfl, show xt_lg 42 = [] from rfl]) (by simp [xv_room, va_rf_cat, cat_int, cat_long, cat_ref, cat_null]) (fun x0 h1 e1 => t42 e1) e (fun v21 h e => ?_)
  refine d_nn e (fun v22 g e1 => ?_)
  subst g
  replace e := e1
  clear e1
  refine d_virtual_v (av := [va_rf (some (xv_SB + 9)), .int v2, .int v16, va_rf v21]) (rest := []) rfl ⟨by decide, by decide⟩ rfl rfl (by simp [xv_fit, va_rf_cat, cat_int, cat_long, cat_ref, cat_null, show xt_mx 25 = 5 from rfl, show xt_lg 25 = [] from rfl]) (by simp [xv_room, va_rf_cat, cat_int, cat_long, cat_ref, cat_null]) (fun x0 h1 e1 => t25 e1) e (fun _ h e => ?_)
  refine xo_aloadQ (w := (some v22)) rfl rfl ?_
  refine xo_getsV rfl ?_
  refine xo_iload rfl rfl ?_
  refine xo_iconstV (x := 0) rfl (by decide) ?_
  refine xo_aload_nQ (w := (some v1)) rfl rfl ?_
  refine d_getr rfl e (fun v23 e => ?_)
  refine d_nn e (fun v24 g e1 => ?_)
  subst g
  replace e := e1
  clear e1
  refine d_getr rfl e (fun v25 e => ?_)
  refine d_nn e (fun v26 g e1 => ?_)
  subst g
  replace e := e1
  clear e1
  refine d_virtual_a (av := []) (rest := [.int (0 : Int32), .int v3, va_rf (some (xv_SB + 10)), va_rf (some v22)]) rfl ⟨by decide, by decide⟩ rfl rfl (by simp [xv_fit, va_rf_cat, cat_int, cat_long, cat_ref, cat_null, show xt_mx 47 = 2 from rfl, show xt_lg 47 = [] from rfl]) (by simp [xv_room, va_rf_cat, cat_int, cat_long, cat_ref, cat_null]) (fun x0 h1 e1 => t47 e1) e (fun v27 h e => ?_)
  refine d_virtual_v (av := [va_rf (some (xv_SB + 10)), .int v3, .int (0 : Int32), va_rf v27]) (rest := []) rfl ⟨by decide, by decide⟩ rfl rfl (by simp [xv_fit, va_rf_cat, cat_int, cat_long, cat_ref, cat_null, show xt_mx 25 = 5 from rfl, show xt_lg 25 = [] from rfl]) (by simp [xv_room, va_rf_cat, cat_int, cat_long, cat_ref, cat_null]) (fun x0 h1 e1 => t25 e1) e (fun _ h e => ?_)
  refine xo_aloadQ (w := (some v22)) rfl rfl ?_
  refine xo_getsV rfl ?_
  refine xo_iload_n rfl rfl ?_
  refine xo_aload_nQ (w := (some v4)) rfl rfl ?_
  refine d_geti rfl e (fun v28 e => ?_)
  refine xo_aloadQ (w := v12) rfl rfl ?_
  refine d_virtual_v (av := [va_rf (some (xv_SB + 9)), .int l1, .int v28, va_rf v12]) (rest := []) rfl ⟨by decide, by decide⟩ rfl rfl (by simp [xv_fit, va_rf_cat, cat_int, cat_long, cat_ref, cat_null, show xt_mx 25 = 5 from rfl, show xt_lg 25 = [] from rfl]) (by simp [xv_room, va_rf_cat, cat_int, cat_long, cat_ref, cat_null]) (fun x0 h1 e1 => t25 e1) e (fun _ h e => ?_)
  exact d_ret rfl e
def m48 (F : Nat) (this : Nat) (p0 : Int32) (p1 : Option Nat) : xm Unit := b48_0 F (some this) p0 p1
theorem t48 {sc : Nat × (Nat → Int32)} {F : Nat} {this : Nat} {p0 : Int32} {p1 : Option Nat} {h : xv_H} {r : Unit} {h' : xv_H} (e : m48 F this p0 p1 h = some (r, h')) : xr sc 48 [.ref this, .int p0, va_rf p1] h (fun v g => v = none ∧ g = h') := by
  have e0 : xv_ent (xt_mx 48) [.ref this, .int p0, va_rf p1] = [some (va_rf (some this)), some (.int p0), some (va_rf p1), none, none, none, none] := by simp [xv_ent, xv_sl, va_rf_cat, cat_int, cat_long, cat_ref, cat_null, va_rf_some, show xt_mx 48 = 7 from rfl]
  unfold xr
  rw [e0]
  exact t48_0 e
-- CellTree$Client.split()V
def b38_49 (F : Nat) : xm Unit := mr ()
theorem t38_49 {sc : Nat × (Nat → Int32)} {F : Nat} {r : Unit} {h' : xv_H} {d0 d1 d2 : Option Value} {h : xv_H} (e : b38_49 F h = some (r, h')) : xx sc 38 49 [d0, d1, d2] [] h (fun v g => v = none ∧ g = h') := by
  unfold b38_49 at e
  exact d_ret rfl e
def b38_43 (F : Nat) (l0 : Option Nat) (l1 : Int32) (l2 : Option Nat) : xm Unit := mb (nn l0) fun v1 => mb (vc 1 v1) fun _ => mb (m48 F v1 l1 l2) fun _ => b38_49 F
theorem t38_43 {sc : Nat × (Nat → Int32)} {F : Nat} {r : Unit} {h' : xv_H} {l0 : Option Nat} {l1 : Int32} {l2 : Option Nat} {h : xv_H} (e : b38_43 F l0 l1 l2 h = some (r, h')) : xx sc 38 43 [some (va_rf l0), some (.int l1), some (va_rf l2)] [] h (fun v g => v = none ∧ g = h') := by
  unfold b38_43 at e
  refine xo_aload_nQ (w := l0) rfl rfl ?_
  refine xo_iload_n rfl rfl ?_
  refine xo_aload_nQ (w := l2) rfl rfl ?_
  refine d_nn e (fun v1 g e1 => ?_)
  subst g
  replace e := e1
  clear e1
  refine d_virtual_v (av := [.int l1, va_rf l2]) (rest := []) rfl ⟨by decide, by decide⟩ rfl rfl (by simp [xv_fit, va_rf_cat, cat_int, cat_long, cat_ref, cat_null, show xt_mx 48 = 7 from rfl, show xt_lg 48 = [] from rfl]) (by simp [xv_room, va_rf_cat, cat_int, cat_long, cat_ref, cat_null]) (fun x0 h1 e1 => t48 e1) e (fun _ h e => ?_)
  exact t38_49 e
def b38_36 (F : Nat) (l0 : Option Nat) : xm Unit := mb (nn l0) fun v1 => mb (vc 1 v1) fun _ => mb (m18 F v1) fun _ => b38_49 F
theorem t38_36 {sc : Nat × (Nat → Int32)} {F : Nat} {r : Unit} {h' : xv_H} {l0 : Option Nat} {d1 d2 : Option Value} {h : xv_H} (e : b38_36 F l0 h = some (r, h')) : xx sc 38 36 [some (va_rf l0), d1, d2] [] h (fun v g => v = none ∧ g = h') := by
  unfold b38_36 at e
  refine xo_aload_nQ (w := l0) rfl rfl ?_
  refine d_nn e (fun v1 g e1 => ?_)
  subst g
  replace e := e1
  clear e1
  refine d_virtual_v (av := []) (rest := []) rfl ⟨by decide, by decide⟩ rfl rfl (by simp [xv_fit, va_rf_cat, cat_int, cat_long, cat_ref, cat_null, show xt_mx 18 = 1 from rfl, show xt_lg 18 = [] from rfl]) (by simp [xv_room, va_rf_cat, cat_int, cat_long, cat_ref, cat_null]) (fun x0 h1 e1 => t18 e1) e (fun _ h e => ?_)
  refine xo_goto rfl rfl ?_
  exact t38_49 e
def b38_13 (F : Nat) (l0 : Option Nat) : xm Unit := mb (nn l0) fun v1 => mb (gr 103 v1) fun v2 => mb (gi 104 v1) fun v3 => mb (nn v2) fun v4 => mb (li v4 (v3 - (2 : Int32))) fun v5 => mb (gr 101 v1) fun v6 => mb (nn v6) fun v7 => mb (lr 108 v7 v5) fun v8 => if ¬ v8 = none then b38_43 F (some v1) v5 v8 else b38_36 F (some v1)
theorem t38_13 {sc : Nat × (Nat → Int32)} {F : Nat} {r : Unit} {h' : xv_H} {l0 : Option Nat} {d1 d2 : Option Value} {h : xv_H} (e : b38_13 F l0 h = some (r, h')) : xx sc 38 13 [some (va_rf l0), d1, d2] [] h (fun v g => v = none ∧ g = h') := by
  unfold b38_13 at e
  refine xo_aload_nQ (w := l0) rfl rfl ?_
  refine d_nn e (fun v1 g e1 => ?_)
  subst g
  replace e := e1
  clear e1
  refine d_getr rfl e (fun v2 e => ?_)
  refine xo_aload_nQ (w := (some v1)) rfl rfl ?_
  refine d_geti rfl e (fun v3 e => ?_)
  refine xo_iconstV (x := 2) rfl (by decide) ?_
  refine xo_isub rfl ?_
  refine d_nn e (fun v4 g e1 => ?_)
  subst g
  replace e := e1
  clear e1
  refine d_iald rfl e (fun v5 e => ?_)
  refine xo_istore_n rfl (Nat.le_of_ble_eq_true rfl) rfl ?_
  refine xo_aload_nQ (w := (some v1)) rfl rfl ?_
  refine d_getr rfl e (fun v6 e => ?_)
  refine xo_iload_n rfl rfl ?_
  refine d_nn e (fun v7 g e1 => ?_)
  subst g
  replace e := e1
  clear e1
  refine d_aald rfl e (fun v8 e => ?_)
  refine xo_astore_nQ (w := v8) rfl (Nat.le_of_ble_eq_true rfl) rfl ?_
  refine xo_aload_nQ (w := v8) rfl rfl ?_
  refine d_ifnonnull (w := v8) rfl rfl e (fun _ e => ?_) (fun _ e => ?_)
  · exact t38_43 e
  · exact t38_36 e
def b38_8 (F : Nat) (l0 : Option Nat) : xm Unit := mb (nn l0) fun v1 => mb (vc 1 v1) fun _ => mb (m39 F v1) fun _ => mr ()
theorem t38_8 {sc : Nat × (Nat → Int32)} {F : Nat} {r : Unit} {h' : xv_H} {l0 : Option Nat} {d1 d2 : Option Value} {h : xv_H} (e : b38_8 F l0 h = some (r, h')) : xx sc 38 8 [some (va_rf l0), d1, d2] [] h (fun v g => v = none ∧ g = h') := by
  unfold b38_8 at e
  refine xo_aload_nQ (w := l0) rfl rfl ?_
  refine d_nn e (fun v1 g e1 => ?_)
  subst g
  replace e := e1
  clear e1
  refine d_virtual_v (av := []) (rest := []) rfl ⟨by decide, by decide⟩ rfl rfl (by simp [xv_fit, va_rf_cat, cat_int, cat_long, cat_ref, cat_null, show xt_mx 39 = 6 from rfl, show xt_lg 39 = [] from rfl]) (by simp [xv_room, va_rf_cat, cat_int, cat_long, cat_ref, cat_null]) (fun x0 h1 e1 => t39 e1) e (fun _ h e => ?_)
  exact d_ret rfl e
def b38_0 (F : Nat) (l0 : Option Nat) : xm Unit := mb (nn l0) fun v1 => mb (gi 104 v1) fun v2 => if ¬ v2 = (1 : Int32) then b38_13 F (some v1) else b38_8 F (some v1)
theorem t38_0 {sc : Nat × (Nat → Int32)} {F : Nat} {r : Unit} {h' : xv_H} {l0 : Option Nat} {d1 d2 : Option Value} {h : xv_H} (e : b38_0 F l0 h = some (r, h')) : xx sc 38 0 [some (va_rf l0), d1, d2] [] h (fun v g => v = none ∧ g = h') := by
  unfold b38_0 at e
  refine xo_aload_nQ (w := l0) rfl rfl ?_
  refine d_nn e (fun v1 g e1 => ?_)
  subst g
  replace e := e1
  clear e1
  refine d_geti rfl e (fun v2 e => ?_)
  refine xo_iconstV (x := 1) rfl (by decide) ?_
  refine d_icmp_ne rfl rfl e (fun _ e => ?_) (fun _ e => ?_)
  · exact t38_13 e
  · exact t38_8 e
def m38 (F : Nat) (this : Nat) : xm Unit := b38_0 F (some this)
theorem t38 {sc : Nat × (Nat → Int32)} {F : Nat} {this : Nat} {h : xv_H} {r : Unit} {h' : xv_H} (e : m38 F this h = some (r, h')) : xr sc 38 [.ref this] h (fun v g => v = none ∧ g = h') := by
  have e0 : xv_ent (xt_mx 38) [.ref this] = [some (va_rf (some this)), none, none] := by simp [xv_ent, xv_sl, va_rf_cat, cat_int, cat_long, cat_ref, cat_null, va_rf_some, show xt_mx 38 = 3 from rfl]
  unfold xr
  rw [e0]
  exact t38_0 e
-- CellTree$Client.advance()V
def b14_100 (F : Nat) (l0 : Option Nat) : xm Unit := mb (nn l0) fun v1 => mb (pr 109 v1 (some (xv_SB + 11))) fun _ => mr ()
theorem t14_100 {sc : Nat × (Nat → Int32)} {F : Nat} {r : Unit} {h' : xv_H} {l0 : Option Nat} {h : xv_H} (e : b14_100 F l0 h = some (r, h')) : xx sc 14 100 [some (va_rf l0)] [] h (fun v g => v = none ∧ g = h') := by
  unfold b14_100 at e
  refine xo_aload_nQ (w := l0) rfl rfl ?_
  refine xo_getsV rfl ?_
  refine d_nn e (fun v1 g e1 => ?_)
  subst g
  replace e := e1
  clear e1
  refine d_putr (w := (some (xv_SB + 11))) rfl e (fun h e => ?_)
  exact d_ret rfl e
def b14_96 (F : Nat) (l0 : Option Nat) : xm Unit := mb (nn l0) fun v1 => mb (vc 1 v1) fun _ => mb (m38 F v1) fun _ => b14_100 F (some v1)
theorem t14_96 {sc : Nat × (Nat → Int32)} {F : Nat} {r : Unit} {h' : xv_H} {l0 : Option Nat} {h : xv_H} (e : b14_96 F l0 h = some (r, h')) : xx sc 14 96 [some (va_rf l0)] [] h (fun v g => v = none ∧ g = h') := by
  unfold b14_96 at e
  refine xo_aload_nQ (w := l0) rfl rfl ?_
  refine d_nn e (fun v1 g e1 => ?_)
  subst g
  replace e := e1
  clear e1
  refine d_virtual_v (av := []) (rest := []) rfl ⟨by decide, by decide⟩ rfl rfl (by simp [xv_fit, va_rf_cat, cat_int, cat_long, cat_ref, cat_null, show xt_mx 38 = 3 from rfl, show xt_lg 38 = [] from rfl]) (by simp [xv_room, va_rf_cat, cat_int, cat_long, cat_ref, cat_null]) (fun x0 h1 e1 => t38 e1) e (fun _ h e => ?_)
  exact t14_100 e
def b14_86 (F : Nat) (l0 : Option Nat) : xm Unit := mb (nn l0) fun v1 => mb (gr 109 v1) fun v2 => mb (cq v2 (some (xv_SB + 18))) fun _ => if ¬ v2 = (some (xv_SB + 18)) then b14_100 F (some v1) else b14_96 F (some v1)
theorem t14_86 {sc : Nat × (Nat → Int32)} {F : Nat} {r : Unit} {h' : xv_H} {l0 : Option Nat} {h : xv_H} (e : b14_86 F l0 h = some (r, h')) : xx sc 14 86 [some (va_rf l0)] [] h (fun v g => v = none ∧ g = h') := by
  unfold b14_86 at e
  refine xo_aload_nQ (w := l0) rfl rfl ?_
  refine d_nn e (fun v1 g e1 => ?_)
  subst g
  replace e := e1
  clear e1
  refine d_getr rfl e (fun v2 e => ?_)
  refine xo_getsV rfl ?_
  refine d_acmp_ne (w1 := v2) (w2 := (some (xv_SB + 18))) rfl rfl e (fun _ e => ?_) (fun _ e => ?_)
  · exact t14_100 e
  · exact t14_96 e
def b14_82 (F : Nat) (l0 : Option Nat) : xm Unit := mb (nn l0) fun v1 => mb (vc 1 v1) fun _ => mb (m36 F v1) fun _ => b14_86 F (some v1)
theorem t14_82 {sc : Nat × (Nat → Int32)} {F : Nat} {r : Unit} {h' : xv_H} {l0 : Option Nat} {h : xv_H} (e : b14_82 F l0 h = some (r, h')) : xx sc 14 82 [some (va_rf l0)] [] h (fun v g => v = none ∧ g = h') := by
  unfold b14_82 at e
  refine xo_aload_nQ (w := l0) rfl rfl ?_
  refine d_nn e (fun v1 g e1 => ?_)
  subst g
  replace e := e1
  clear e1
  refine d_virtual_v (av := []) (rest := []) rfl ⟨by decide, by decide⟩ rfl rfl (by simp [xv_fit, va_rf_cat, cat_int, cat_long, cat_ref, cat_null, show xt_mx 36 = 2 from rfl, show xt_lg 36 = [] from rfl]) (by simp [xv_room, va_rf_cat, cat_int, cat_long, cat_ref, cat_null]) (fun x0 h1 e1 => t36 e1) e (fun _ h e => ?_)
  exact t14_86 e
def b14_72 (F : Nat) (l0 : Option Nat) : xm Unit := mb (nn l0) fun v1 => mb (gr 109 v1) fun v2 => mb (cq v2 (some (xv_SB + 17))) fun _ => if ¬ v2 = (some (xv_SB + 17)) then b14_86 F (some v1) else b14_82 F (some v1)
theorem t14_72 {sc : Nat × (Nat → Int32)} {F : Nat} {r : Unit} {h' : xv_H} {l0 : Option Nat} {h : xv_H} (e : b14_72 F l0 h = some (r, h')) : xx sc 14 72 [some (va_rf l0)] [] h (fun v g => v = none ∧ g = h') := by
  unfold b14_72 at e
  refine xo_aload_nQ (w := l0) rfl rfl ?_
  refine d_nn e (fun v1 g e1 => ?_)
  subst g
  replace e := e1
  clear e1
  refine d_getr rfl e (fun v2 e => ?_)
  refine xo_getsV rfl ?_
  refine d_acmp_ne (w1 := v2) (w2 := (some (xv_SB + 17))) rfl rfl e (fun _ e => ?_) (fun _ e => ?_)
  · exact t14_86 e
  · exact t14_82 e
def b14_68 (F : Nat) (l0 : Option Nat) : xm Unit := mb (nn l0) fun v1 => mb (vc 1 v1) fun _ => mb (m27 F v1) fun _ => b14_72 F (some v1)
theorem t14_68 {sc : Nat × (Nat → Int32)} {F : Nat} {r : Unit} {h' : xv_H} {l0 : Option Nat} {h : xv_H} (e : b14_68 F l0 h = some (r, h')) : xx sc 14 68 [some (va_rf l0)] [] h (fun v g => v = none ∧ g = h') := by
  unfold b14_68 at e
  refine xo_aload_nQ (w := l0) rfl rfl ?_
  refine d_nn e (fun v1 g e1 => ?_)
  subst g
  replace e := e1
  clear e1
  refine d_virtual_v (av := []) (rest := []) rfl ⟨by decide, by decide⟩ rfl rfl (by simp [xv_fit, va_rf_cat, cat_int, cat_long, cat_ref, cat_null, show xt_mx 27 = 3 from rfl, show xt_lg 27 = [] from rfl]) (by simp [xv_room, va_rf_cat, cat_int, cat_long, cat_ref, cat_null]) (fun x0 h1 e1 => t27 e1) e (fun _ h e => ?_)
  exact t14_72 e
def b14_58 (F : Nat) (l0 : Option Nat) : xm Unit := mb (nn l0) fun v1 => mb (gr 109 v1) fun v2 => mb (cq v2 (some (xv_SB + 16))) fun _ => if ¬ v2 = (some (xv_SB + 16)) then b14_72 F (some v1) else b14_68 F (some v1)
theorem t14_58 {sc : Nat × (Nat → Int32)} {F : Nat} {r : Unit} {h' : xv_H} {l0 : Option Nat} {h : xv_H} (e : b14_58 F l0 h = some (r, h')) : xx sc 14 58 [some (va_rf l0)] [] h (fun v g => v = none ∧ g = h') := by
  unfold b14_58 at e
  refine xo_aload_nQ (w := l0) rfl rfl ?_
  refine d_nn e (fun v1 g e1 => ?_)
  subst g
  replace e := e1
  clear e1
  refine d_getr rfl e (fun v2 e => ?_)
  refine xo_getsV rfl ?_
  refine d_acmp_ne (w1 := v2) (w2 := (some (xv_SB + 16))) rfl rfl e (fun _ e => ?_) (fun _ e => ?_)
  · exact t14_72 e
  · exact t14_68 e
def b14_51 (F : Nat) (l0 : Option Nat) : xm Unit := mb (nn l0) fun v1 => mb (vc 1 v1) fun _ => mb (m17 F v1) fun _ => b14_72 F (some v1)
theorem t14_51 {sc : Nat × (Nat → Int32)} {F : Nat} {r : Unit} {h' : xv_H} {l0 : Option Nat} {h : xv_H} (e : b14_51 F l0 h = some (r, h')) : xx sc 14 51 [some (va_rf l0)] [] h (fun v g => v = none ∧ g = h') := by
  unfold b14_51 at e
  refine xo_aload_nQ (w := l0) rfl rfl ?_
  refine d_nn e (fun v1 g e1 => ?_)
  subst g
  replace e := e1
  clear e1
  refine d_virtual_v (av := []) (rest := []) rfl ⟨by decide, by decide⟩ rfl rfl (by simp [xv_fit, va_rf_cat, cat_int, cat_long, cat_ref, cat_null, show xt_mx 17 = 1 from rfl, show xt_lg 17 = [] from rfl]) (by simp [xv_room, va_rf_cat, cat_int, cat_long, cat_ref, cat_null]) (fun x0 h1 e1 => t17 e1) e (fun _ h e => ?_)
  refine xo_goto rfl rfl ?_
  exact t14_72 e
def b14_38 (F : Nat) (l0 : Option Nat) : xm Unit := mb (nn l0) fun v1 => mb (gr 102 v1) fun v2 => mb (nn v2) fun v3 => mb (gr 203 v3) fun v4 => mb (cq v4 (some (xv_SB + 6))) fun _ => if ¬ v4 = (some (xv_SB + 6)) then b14_58 F (some v1) else b14_51 F (some v1)
theorem t14_38 {sc : Nat × (Nat → Int32)} {F : Nat} {r : Unit} {h' : xv_H} {l0 : Option Nat} {h : xv_H} (e : b14_38 F l0 h = some (r, h')) : xx sc 14 38 [some (va_rf l0)] [] h (fun v g => v = none ∧ g = h') := by
  unfold b14_38 at e
  refine xo_aload_nQ (w := l0) rfl rfl ?_
  refine d_nn e (fun v1 g e1 => ?_)
  subst g
  replace e := e1
  clear e1
  refine d_getr rfl e (fun v2 e => ?_)
  refine d_nn e (fun v3 g e1 => ?_)
  subst g
  replace e := e1
  clear e1
  refine d_getr rfl e (fun v4 e => ?_)
  refine xo_getsV rfl ?_
  refine d_acmp_ne (w1 := v4) (w2 := (some (xv_SB + 6))) rfl rfl e (fun _ e => ?_) (fun _ e => ?_)
  · exact t14_58 e
  · exact t14_51 e
def b14_28 (F : Nat) (l0 : Option Nat) : xm Unit := mb (nn l0) fun v1 => mb (gr 109 v1) fun v2 => mb (cq v2 (some (xv_SB + 16))) fun _ => if ¬ v2 = (some (xv_SB + 16)) then b14_58 F (some v1) else b14_38 F (some v1)
theorem t14_28 {sc : Nat × (Nat → Int32)} {F : Nat} {r : Unit} {h' : xv_H} {l0 : Option Nat} {h : xv_H} (e : b14_28 F l0 h = some (r, h')) : xx sc 14 28 [some (va_rf l0)] [] h (fun v g => v = none ∧ g = h') := by
  unfold b14_28 at e
  refine xo_aload_nQ (w := l0) rfl rfl ?_
  refine d_nn e (fun v1 g e1 => ?_)
  subst g
  replace e := e1
  clear e1
  refine d_getr rfl e (fun v2 e => ?_)
  refine xo_getsV rfl ?_
  refine d_acmp_ne (w1 := v2) (w2 := (some (xv_SB + 16))) rfl rfl e (fun _ e => ?_) (fun _ e => ?_)
  · exact t14_58 e
  · exact t14_38 e
def b14_10 (F : Nat) (l0 : Option Nat) : xm Unit := mb (nn l0) fun v1 => mb (gr 102 v1) fun v2 => mb (nn v2) fun v3 => mb (vc 2 v3) fun _ => mb (m15 F v3) fun _ => mb (gr 102 v1) fun v4 => mb (nn v4) fun v5 => mb (gi 204 v5) fun v6 => mb (vc 1 v1) fun _ => mb (m16 F v1 v6) fun _ => b14_28 F (some v1)
theorem t14_10 {sc : Nat × (Nat → Int32)} {F : Nat} {r : Unit} {h' : xv_H} {l0 : Option Nat} {h : xv_H} (e : b14_10 F l0 h = some (r, h')) : xx sc 14 10 [some (va_rf l0)] [] h (fun v g => v = none ∧ g = h') := by
  unfold b14_10 at e
  refine xo_aload_nQ (w := l0) rfl rfl ?_
  refine d_nn e (fun v1 g e1 => ?_)
  subst g
  replace e := e1
  clear e1
  refine d_getr rfl e (fun v2 e => ?_)
  refine d_nn e (fun v3 g e1 => ?_)
  subst g
  replace e := e1
  clear e1
  refine d_virtual_v (av := []) (rest := []) rfl ⟨by decide, by decide⟩ rfl rfl (by simp [xv_fit, va_rf_cat, cat_int, cat_long, cat_ref, cat_null, show xt_mx 15 = 1 from rfl, show xt_lg 15 = [] from rfl]) (by simp [xv_room, va_rf_cat, cat_int, cat_long, cat_ref, cat_null]) (fun x0 h1 e1 => t15 e1) e (fun _ h e => ?_)
  refine xo_aload_nQ (w := (some v1)) rfl rfl ?_
  refine xo_aload_nQ (w := (some v1)) rfl rfl ?_
  refine d_getr rfl e (fun v4 e => ?_)
  refine d_nn e (fun v5 g e1 => ?_)
  subst g
  replace e := e1
  clear e1
  refine d_geti rfl e (fun v6 e => ?_)
  refine d_virtual_v (av := [.int v6]) (rest := []) rfl ⟨by decide, by decide⟩ rfl rfl (by simp [xv_fit, va_rf_cat, cat_int, cat_long, cat_ref, cat_null, show xt_mx 16 = 2 from rfl, show xt_lg 16 = [] from rfl]) (by simp [xv_room, va_rf_cat, cat_int, cat_long, cat_ref, cat_null]) (fun x0 h1 e1 => t16 e1) e (fun _ h e => ?_)
  exact t14_28 e
def b14_0 (F : Nat) (l0 : Option Nat) : xm Unit := mb (nn l0) fun v1 => mb (gr 109 v1) fun v2 => mb (cq v2 (some (xv_SB + 15))) fun _ => if ¬ v2 = (some (xv_SB + 15)) then b14_28 F (some v1) else b14_10 F (some v1)
theorem t14_0 {sc : Nat × (Nat → Int32)} {F : Nat} {r : Unit} {h' : xv_H} {l0 : Option Nat} {h : xv_H} (e : b14_0 F l0 h = some (r, h')) : xx sc 14 0 [some (va_rf l0)] [] h (fun v g => v = none ∧ g = h') := by
  unfold b14_0 at e
  refine xo_aload_nQ (w := l0) rfl rfl ?_
  refine d_nn e (fun v1 g e1 => ?_)
  subst g
  replace e := e1
  clear e1
  refine d_getr rfl e (fun v2 e => ?_)
  refine xo_getsV rfl ?_
  refine d_acmp_ne (w1 := v2) (w2 := (some (xv_SB + 15))) rfl rfl e (fun _ e => ?_) (fun _ e => ?_)
  · exact t14_28 e
  · exact t14_10 e
def m14 (F : Nat) (this : Nat) : xm Unit := b14_0 F (some this)
theorem t14 {sc : Nat × (Nat → Int32)} {F : Nat} {this : Nat} {h : xv_H} {r : Unit} {h' : xv_H} (e : m14 F this h = some (r, h')) : xr sc 14 [.ref this] h (fun v g => v = none ∧ g = h') := by
  have e0 : xv_ent (xt_mx 14) [.ref this] = [some (va_rf (some this))] := by simp [xv_ent, xv_sl, va_rf_cat, cat_int, cat_long, cat_ref, cat_null, va_rf_some, show xt_mx 14 = 1 from rfl]
  unfold xr
  rw [e0]
  exact t14_0 e
-- java/util/ArrayList.size()I
def b53_0 (F : Nat) (l0 : Option Nat) : xm Int32 := mb (nn l0) fun v1 => mb (gi 1001 v1) fun v2 => mr v2
theorem t53_0 {sc : Nat × (Nat → Int32)} {F : Nat} {r : Int32} {h' : xv_H} {l0 : Option Nat} {h : xv_H} (e : b53_0 F l0 h = some (r, h')) : xx sc 53 0 [some (va_rf l0)] [] h (fun v g => v = some (.int r) ∧ g = h') := by
  unfold b53_0 at e
  refine xo_aload_nQ (w := l0) rfl rfl ?_
  refine d_nn e (fun v1 g e1 => ?_)
  subst g
  replace e := e1
  clear e1
  refine d_geti rfl e (fun v2 e => ?_)
  exact d_iret rfl e
def m53 (F : Nat) (this : Nat) : xm Int32 := b53_0 F (some this)
theorem t53 {sc : Nat × (Nat → Int32)} {F : Nat} {this : Nat} {h : xv_H} {r : Int32} {h' : xv_H} (e : m53 F this h = some (r, h')) : xr sc 53 [.ref this] h (fun v g => v = some (.int r) ∧ g = h') := by
  have e0 : xv_ent (xt_mx 53) [.ref this] = [some (va_rf (some this))] := by simp [xv_ent, xv_sl, va_rf_cat, cat_int, cat_long, cat_ref, cat_null, va_rf_some, show xt_mx 53 = 1 from rfl]
  unfold xr
  rw [e0]
  exact t53_0 e
-- CellTree$Message.<init>(ILCellTree$Transaction;ILCellTree$Cell;)V
def b54_0 (F : Nat) (l0 : Option Nat) (l1 : Int32) (l2 : Option Nat) (l3 : Int32) (l4 : Option Nat) : xm Unit := mb (nn l0) fun v1 => mb (pi_ 800 v1 l1) fun _ => mb (pr 801 v1 l2) fun _ => mb (pi_ 802 v1 l3) fun _ => mb (pr 803 v1 l4) fun _ => mr ()
theorem t54_0 {sc : Nat × (Nat → Int32)} {F : Nat} {r : Unit} {h' : xv_H} {l0 : Option Nat} {l1 : Int32} {l2 : Option Nat} {l3 : Int32} {l4 : Option Nat} {h : xv_H} (e : b54_0 F l0 l1 l2 l3 l4 h = some (r, h')) : xx sc 54 0 [some (va_rf l0), some (.int l1), some (va_rf l2), some (.int l3), some (va_rf l4)] [] h (fun v g => v = none ∧ g = h') := by
  unfold b54_0 at e
  refine xo_aload_nQ (w := l0) rfl rfl ?_
  refine d_nn e (fun v1 g e1 => ?_)
  subst g
  replace e := e1
  clear e1
  refine xo_init rfl (by simp [xv_room, va_rf_cat, cat_int, cat_long, cat_ref, cat_null]) ?_
  refine xo_aload_nQ (w := (some v1)) rfl rfl ?_
  refine xo_iload_n rfl rfl ?_
  refine d_puti rfl e (fun h e => ?_)
  refine xo_aload_nQ (w := (some v1)) rfl rfl ?_
  refine xo_aload_nQ (w := l2) rfl rfl ?_
  refine d_putr (w := l2) rfl e (fun h e => ?_)
  refine xo_aload_nQ (w := (some v1)) rfl rfl ?_
  refine xo_iload_n rfl rfl ?_
  refine d_puti rfl e (fun h e => ?_)
  refine xo_aload_nQ (w := (some v1)) rfl rfl ?_
  refine xo_aloadQ (w := l4) rfl rfl ?_
  refine d_putr (w := l4) rfl e (fun h e => ?_)
  exact d_ret rfl e
def m54 (F : Nat) (this : Nat) (p0 : Int32) (p1 : Option Nat) (p2 : Int32) (p3 : Option Nat) : xm Unit := b54_0 F (some this) p0 p1 p2 p3
theorem t54 {sc : Nat × (Nat → Int32)} {F : Nat} {this : Nat} {p0 : Int32} {p1 : Option Nat} {p2 : Int32} {p3 : Option Nat} {h : xv_H} {r : Unit} {h' : xv_H} (e : m54 F this p0 p1 p2 p3 h = some (r, h')) : xr sc 54 [.ref this, .int p0, va_rf p1, .int p2, va_rf p3] h (fun v g => v = none ∧ g = h') := by
  have e0 : xv_ent (xt_mx 54) [.ref this, .int p0, va_rf p1, .int p2, va_rf p3] = [some (va_rf (some this)), some (.int p0), some (va_rf p1), some (.int p2), some (va_rf p3)] := by simp [xv_ent, xv_sl, va_rf_cat, cat_int, cat_long, cat_ref, cat_null, va_rf_some, show xt_mx 54 = 5 from rfl]
  unfold xr
  rw [e0]
  exact t54_0 e
-- jdk/internal/util/ArraysSupport.hugeLength(II)I
def b60_58 (F : Nat) (l2 : Int32) : xm Int32 := mr l2
theorem t60_58 {sc : Nat × (Nat → Int32)} {F : Nat} {r : Int32} {h' : xv_H} {l2 : Int32} {d0 d1 : Option Value} {h : xv_H} (e : b60_58 F l2 h = some (r, h')) : xx sc 60 58 [d0, d1, some (.int l2)] [] h (fun v g => v = some (.int r) ∧ g = h') := by
  unfold b60_58 at e
  refine xo_iload_n rfl rfl ?_
  exact d_iret rfl e
def b60_55 (F : Nat) : xm Int32 := mr (2147483639 : Int32)
theorem t60_55 {sc : Nat × (Nat → Int32)} {F : Nat} {r : Int32} {h' : xv_H} {d0 d1 d2 : Option Value} {h : xv_H} (e : b60_55 F h = some (r, h')) : xx sc 60 55 [d0, d1, d2] [] h (fun v g => v = some (.int r) ∧ g = h') := by
  unfold b60_55 at e
  refine xo_ldcV (x := 2147483639) rfl (by decide) ?_
  exact d_iret rfl e
def b60_49 (F : Nat) (l2 : Int32) : xm Int32 := if (2147483639 : Int32) < l2 then b60_58 F l2 else b60_55 F
theorem t60_49 {sc : Nat × (Nat → Int32)} {F : Nat} {r : Int32} {h' : xv_H} {l2 : Int32} {d0 d1 : Option Value} {h : xv_H} (e : b60_49 F l2 h = some (r, h')) : xx sc 60 49 [d0, d1, some (.int l2)] [] h (fun v g => v = some (.int r) ∧ g = h') := by
  unfold b60_49 at e
  refine xo_iload_n rfl rfl ?_
  refine xo_ldcV (x := 2147483639) rfl (by decide) ?_
  refine d_icmp_gt rfl rfl e (fun _ e => ?_) (fun _ e => ?_)
  · exact t60_58 e
  · exact t60_55 e
def b60_8 (F : Nat) : xm Int32 := fun _ => none
theorem t60_8 {sc : Nat × (Nat → Int32)} {F : Nat} {r : Int32} {h' : xv_H} {d0 d1 d2 : Option Value} {h : xv_H} (e : b60_8 F h = some (r, h')) : xx sc 60 8 [d0, d1, d2] [] h (fun v g => v = some (.int r) ∧ g = h') := by
  cases e
def b60_0 (F : Nat) (l0 : Int32) (l1 : Int32) : xm Int32 := if 0 ≤ (l0 + l1) then b60_49 F (l0 + l1) else b60_8 F
theorem t60_0 {sc : Nat × (Nat → Int32)} {F : Nat} {r : Int32} {h' : xv_H} {l0 : Int32} {l1 : Int32} {d2 : Option Value} {h : xv_H} (e : b60_0 F l0 l1 h = some (r, h')) : xx sc 60 0 [some (.int l0), some (.int l1), d2] [] h (fun v g => v = some (.int r) ∧ g = h') := by
  unfold b60_0 at e
  refine xo_iload_n rfl rfl ?_
  refine xo_iload_n rfl rfl ?_
  refine xo_iadd rfl ?_
  refine xo_istore_n rfl (Nat.le_of_ble_eq_true rfl) rfl ?_
  refine xo_iload_n rfl rfl ?_
  refine d_if_ge rfl rfl e (fun _ e => ?_) (fun _ e => ?_)
  · exact t60_49 e
  · exact t60_8 e
def m60 (F : Nat) (p0 : Int32) (p1 : Int32) : xm Int32 := b60_0 F p0 p1
theorem t60 {sc : Nat × (Nat → Int32)} {F : Nat} {p0 : Int32} {p1 : Int32} {h : xv_H} {r : Int32} {h' : xv_H} (e : m60 F p0 p1 h = some (r, h')) : xr sc 60 [.int p0, .int p1] h (fun v g => v = some (.int r) ∧ g = h') := by
  have e0 : xv_ent (xt_mx 60) [.int p0, .int p1] = [some (.int p0), some (.int p1), none] := by simp [xv_ent, xv_sl, va_rf_cat, cat_int, cat_long, cat_ref, cat_null, va_rf_some, show xt_mx 60 = 3 from rfl]
  unfold xr
  rw [e0]
  exact t60_0 e
-- jdk/internal/util/ArraysSupport.newLength(III)I
def b59_21 (F : Nat) (l0 : Int32) (l1 : Int32) : xm Int32 := mb (m60 F l0 l1) fun v1 => mr v1
theorem t59_21 {sc : Nat × (Nat → Int32)} {F : Nat} {r : Int32} {h' : xv_H} {l0 : Int32} {l1 : Int32} {d2 d3 : Option Value} {h : xv_H} (e : b59_21 F l0 l1 h = some (r, h')) : xx sc 59 21 [some (.int l0), some (.int l1), d2, d3] [] h (fun v g => v = some (.int r) ∧ g = h') := by
  unfold b59_21 at e
  refine xo_iload_n rfl rfl ?_
  refine xo_iload_n rfl rfl ?_
  refine d_static_i (av := [.int l0, .int l1]) (rest := []) rfl ⟨by decide, by decide, by decide⟩ rfl rfl (by simp [xv_fit, va_rf_cat, cat_int, cat_long, cat_ref, cat_null, show xt_mx 60 = 3 from rfl, show xt_lg 60 = [] from rfl]) (by simp [xv_room, va_rf_cat, cat_int, cat_long, cat_ref, cat_null]) (fun x0 h1 e1 => t60 e1) e (fun v1 h e => ?_)
  exact d_iret rfl e
def b59_19 (F : Nat) (l3 : Int32) : xm Int32 := mr l3
theorem t59_19 {sc : Nat × (Nat → Int32)} {F : Nat} {r : Int32} {h' : xv_H} {l3 : Int32} {d0 d1 d2 : Option Value} {h : xv_H} (e : b59_19 F l3 h = some (r, h')) : xx sc 59 19 [d0, d1, d2, some (.int l3)] [] h (fun v g => v = some (.int r) ∧ g = h') := by
  unfold b59_19 at e
  refine xo_iload_n rfl rfl ?_
  exact d_iret rfl e
def b59_13 (F : Nat) (l0 : Int32) (l1 : Int32) (l3 : Int32) : xm Int32 := if (2147483639 : Int32) < l3 then b59_21 F l0 l1 else b59_19 F l3
theorem t59_13 {sc : Nat × (Nat → Int32)} {F : Nat} {r : Int32} {h' : xv_H} {l0 : Int32} {l1 : Int32} {l3 : Int32} {d2 : Option Value} {h : xv_H} (e : b59_13 F l0 l1 l3 h = some (r, h')) : xx sc 59 13 [some (.int l0), some (.int l1), d2, some (.int l3)] [] h (fun v g => v = some (.int r) ∧ g = h') := by
  unfold b59_13 at e
  refine xo_iload_n rfl rfl ?_
  refine xo_ldcV (x := 2147483639) rfl (by decide) ?_
  refine d_icmp_gt rfl rfl e (fun _ e => ?_) (fun _ e => ?_)
  · exact t59_21 e
  · exact t59_19 e
def b59_0 (F : Nat) (l0 : Int32) (l1 : Int32) (l2 : Int32) : xm Int32 := if (l0 + (if l1 < l2 then l2 else l1)) ≤ (0 : Int32) then b59_21 F l0 l1 else b59_13 F l0 l1 (l0 + (if l1 < l2 then l2 else l1))
theorem t59_0 {sc : Nat × (Nat → Int32)} {F : Nat} {r : Int32} {h' : xv_H} {l0 : Int32} {l1 : Int32} {l2 : Int32} {d3 : Option Value} {h : xv_H} (e : b59_0 F l0 l1 l2 h = some (r, h')) : xx sc 59 0 [some (.int l0), some (.int l1), some (.int l2), d3] [] h (fun v g => v = some (.int r) ∧ g = h') := by
  unfold b59_0 at e
  refine xo_iload_n rfl rfl ?_
  refine xo_iload_n rfl rfl ?_
  refine xo_iload_n rfl rfl ?_
  refine xo_max rfl (by simp [xv_room, va_rf_cat, cat_int, cat_long, cat_ref, cat_null]) ?_
  refine xo_iadd rfl ?_
  refine xo_istore_n rfl (Nat.le_of_ble_eq_true rfl) rfl ?_
  refine xo_iconstV (x := 0) rfl (by decide) ?_
  refine xo_iload_n rfl rfl ?_
  refine d_icmp_ge rfl rfl e (fun _ e => ?_) (fun _ e => ?_)
  · exact t59_21 e
  · exact t59_13 e
def m59 (F : Nat) (p0 : Int32) (p1 : Int32) (p2 : Int32) : xm Int32 := b59_0 F p0 p1 p2
theorem t59 {sc : Nat × (Nat → Int32)} {F : Nat} {p0 : Int32} {p1 : Int32} {p2 : Int32} {h : xv_H} {r : Int32} {h' : xv_H} (e : m59 F p0 p1 p2 h = some (r, h')) : xr sc 59 [.int p0, .int p1, .int p2] h (fun v g => v = some (.int r) ∧ g = h') := by
  have e0 : xv_ent (xt_mx 59) [.int p0, .int p1, .int p2] = [some (.int p0), some (.int p1), some (.int p2), none] := by simp [xv_ent, xv_sl, va_rf_cat, cat_int, cat_long, cat_ref, cat_null, va_rf_some, show xt_mx 59 = 4 from rfl]
  unfold xr
  rw [e0]
  exact t59_0 e
-- java/util/Arrays.copyOf([Ljava/lang/Object;ILjava/lang/Class;)[Ljava/lang/Object;
def b62_24 (F : Nat) (s0 : Option Nat) (l0 : Option Nat) (l1 : Int32) : xm (Option Nat) := mb (nn l0) fun v1 => mb (len 109 1 v1) fun v2 => mb (nn s0) fun v3 => mb (cy 109 (if l1 < v2 then l1 else v2) (0 : Int32) v3 (0 : Int32) v1) fun _ => mr (some v3)
theorem t62_24 {sc : Nat × (Nat → Int32)} {F : Nat} {r : Option Nat} {h' : xv_H} {s0 : Option Nat} {l0 : Option Nat} {l1 : Int32} {d2 d3 : Option Value} {h : xv_H} (e : b62_24 F s0 l0 l1 h = some (r, h')) : xx sc 62 24 [some (va_rf l0), some (.int l1), d2, d3] [va_rf s0] h (fun v g => v = some (va_rf r) ∧ g = h') := by
  unfold b62_24 at e
  refine xo_astore_nQ (w := s0) rfl (Nat.le_of_ble_eq_true rfl) rfl ?_
  refine xo_aload_nQ (w := l0) rfl rfl ?_
  refine xo_iconstV (x := 0) rfl (by decide) ?_
  refine xo_aload_nQ (w := s0) rfl rfl ?_
  refine xo_iconstV (x := 0) rfl (by decide) ?_
  refine xo_aload_nQ (w := l0) rfl rfl ?_
  refine d_nn e (fun v1 g e1 => ?_)
  subst g
  replace e := e1
  clear e1
  refine d_len rfl e (fun v2 e => ?_)
  refine xo_iload_n rfl rfl ?_
  refine xo_min rfl (by simp [xv_room, va_rf_cat, cat_int, cat_long, cat_ref, cat_null]) ?_
  refine d_nn e (fun v3 g e1 => ?_)
  subst g
  replace e := e1
  clear e1
  refine d_copy rfl (by simp [xv_room, va_rf_cat, cat_int, cat_long, cat_ref, cat_null]) e (fun h e => ?_)
  refine xo_aload_nQ (w := (some v3)) rfl rfl ?_
  exact d_aret rfl e
def b62_13 (F : Nat) (l2 : Option Nat) : xm (Option Nat) := fun _ => none
theorem t62_13 {sc : Nat × (Nat → Int32)} {F : Nat} {r : Option Nat} {h' : xv_H} {l2 : Option Nat} {d0 d1 d3 : Option Value} {h : xv_H} (e : b62_13 F l2 h = some (r, h')) : xx sc 62 13 [d0, d1, some (va_rf l2), d3] [] h (fun v g => v = some (va_rf r) ∧ g = h') := by
  cases e
def b62_6 (F : Nat) (l0 : Option Nat) (l1 : Int32) : xm (Option Nat) := mb (na 109 l1) fun v1 => b62_24 F (some v1) l0 l1
theorem t62_6 {sc : Nat × (Nat → Int32)} {F : Nat} {r : Option Nat} {h' : xv_H} {l0 : Option Nat} {l1 : Int32} {d2 d3 : Option Value} {h : xv_H} (e : b62_6 F l0 l1 h = some (r, h')) : xx sc 62 6 [some (va_rf l0), some (.int l1), d2, d3] [] h (fun v g => v = some (va_rf r) ∧ g = h') := by
  unfold b62_6 at e
  refine xo_iload_n rfl rfl ?_
  refine d_anew rfl e (fun v1 h e => ?_)
  refine xo_goto rfl rfl ?_
  exact t62_24 e
def b62_0 (F : Nat) (l0 : Option Nat) (l1 : Int32) (l2 : Option Nat) : xm (Option Nat) := mb (cq l2 (some (xv_SB + 1))) fun _ => if ¬ l2 = (some (xv_SB + 1)) then b62_13 F l2 else b62_6 F l0 l1
theorem t62_0 {sc : Nat × (Nat → Int32)} {F : Nat} {r : Option Nat} {h' : xv_H} {l0 : Option Nat} {l1 : Int32} {l2 : Option Nat} {d3 : Option Value} {h : xv_H} (e : b62_0 F l0 l1 l2 h = some (r, h')) : xx sc 62 0 [some (va_rf l0), some (.int l1), some (va_rf l2), d3] [] h (fun v g => v = some (va_rf r) ∧ g = h') := by
  unfold b62_0 at e
  refine xo_aload_nQ (w := l2) rfl rfl ?_
  refine xo_ldcMV rfl ?_
  refine d_acmp_ne (w1 := l2) (w2 := (some (xv_SB + 1))) rfl rfl e (fun _ e => ?_) (fun _ e => ?_)
  · exact t62_13 e
  · exact t62_6 e
def m62 (F : Nat) (p0 : Option Nat) (p1 : Int32) (p2 : Option Nat) : xm (Option Nat) := b62_0 F p0 p1 p2
theorem t62 {sc : Nat × (Nat → Int32)} {F : Nat} {p0 : Option Nat} {p1 : Int32} {p2 : Option Nat} {h : xv_H} {r : Option Nat} {h' : xv_H} (e : m62 F p0 p1 p2 h = some (r, h')) : xr sc 62 [va_rf p0, .int p1, va_rf p2] h (fun v g => v = some (va_rf r) ∧ g = h') := by
  have e0 : xv_ent (xt_mx 62) [va_rf p0, .int p1, va_rf p2] = [some (va_rf p0), some (.int p1), some (va_rf p2), none] := by simp [xv_ent, xv_sl, va_rf_cat, cat_int, cat_long, cat_ref, cat_null, va_rf_some, show xt_mx 62 = 4 from rfl]
  unfold xr
  rw [e0]
  exact t62_0 e
-- java/util/Arrays.copyOf([Ljava/lang/Object;I)[Ljava/lang/Object;
def b61_0 (F : Nat) (l0 : Option Nat) (l1 : Int32) : xm (Option Nat) := mb (nn l0) fun v1 => mb (gc 109 v1) fun _ => mb (m62 F (some v1) l1 (some (xv_SB + 1))) fun v2 => mr v2
theorem t61_0 {sc : Nat × (Nat → Int32)} {F : Nat} {r : Option Nat} {h' : xv_H} {l0 : Option Nat} {l1 : Int32} {h : xv_H} (e : b61_0 F l0 l1 h = some (r, h')) : xx sc 61 0 [some (va_rf l0), some (.int l1)] [] h (fun v g => v = some (va_rf r) ∧ g = h') := by
  unfold b61_0 at e
  refine xo_aload_nQ (w := l0) rfl rfl ?_
  refine xo_iload_n rfl rfl ?_
  refine xo_aload_nQ (w := l0) rfl rfl ?_
  refine d_nn e (fun v1 g e1 => ?_)
  subst g
  replace e := e1
  clear e1
  refine d_getC rfl (by simp [xv_room, va_rf_cat, cat_int, cat_long, cat_ref, cat_null]) e (fun e => ?_)
  refine d_static_a (av := [va_rf (some v1), .int l1, va_rf (some (xv_SB + 1))]) (rest := []) rfl ⟨by decide, by decide, by decide⟩ rfl rfl (by simp [xv_fit, va_rf_cat, cat_int, cat_long, cat_ref, cat_null, show xt_mx 62 = 4 from rfl, show xt_lg 62 = [] from rfl]) (by simp [xv_room, va_rf_cat, cat_int, cat_long, cat_ref, cat_null]) (fun x0 h1 e1 => t62 e1) e (fun v2 h e => ?_)
  exact d_aret rfl e
def m61 (F : Nat) (p0 : Option Nat) (p1 : Int32) : xm (Option Nat) := b61_0 F p0 p1
theorem t61 {sc : Nat × (Nat → Int32)} {F : Nat} {p0 : Option Nat} {p1 : Int32} {h : xv_H} {r : Option Nat} {h' : xv_H} (e : m61 F p0 p1 h = some (r, h')) : xr sc 61 [va_rf p0, .int p1] h (fun v g => v = some (va_rf r) ∧ g = h') := by
  have e0 : xv_ent (xt_mx 61) [va_rf p0, .int p1] = [some (va_rf p0), some (.int p1)] := by simp [xv_ent, xv_sl, va_rf_cat, cat_int, cat_long, cat_ref, cat_null, va_rf_some, show xt_mx 61 = 2 from rfl]
  unfold xr
  rw [e0]
  exact t61_0 e
-- java/util/ArrayList.grow(I)[Ljava/lang/Object;
def b58_45 (F : Nat) (l0 : Option Nat) (l1 : Int32) : xm (Option Nat) := mb (na 109 (if (10 : Int32) < l1 then l1 else (10 : Int32))) fun v1 => mb (nn l0) fun v2 => mb (pr 1000 v2 (some v1)) fun _ => mr (some v1)
theorem t58_45 {sc : Nat × (Nat → Int32)} {F : Nat} {r : Option Nat} {h' : xv_H} {l0 : Option Nat} {l1 : Int32} {d2 d3 : Option Value} {h : xv_H} (e : b58_45 F l0 l1 h = some (r, h')) : xx sc 58 45 [some (va_rf l0), some (.int l1), d2, d3] [] h (fun v g => v = some (va_rf r) ∧ g = h') := by
  unfold b58_45 at e
  refine xo_aload_nQ (w := l0) rfl rfl ?_
  refine xo_bipushV (x := 10) rfl (by decide) ?_
  refine xo_iload_n rfl rfl ?_
  refine xo_max rfl (by simp [xv_room, va_rf_cat, cat_int, cat_long, cat_ref, cat_null]) ?_
  refine d_anew rfl e (fun v1 h e => ?_)
  refine xo_dup_x1 rfl (by first | rfl | exact va_rf_cat _) (by first | rfl | exact va_rf_cat _) ?_
  refine d_nn e (fun v2 g e1 => ?_)
  subst g
  replace e := e1
  clear e1
  refine d_putr (w := (some v1)) rfl e (fun h e => ?_)
  exact d_aret rfl e
def b58_20 (F : Nat) (l0 : Option Nat) (l1 : Int32) (l2 : Int32) : xm (Option Nat) := mb (m59 F l2 (l1 - l2) (l2 >>> ((1 : Int32) &&& 31))) fun v1 => mb (nn l0) fun v2 => mb (gr 1000 v2) fun v3 => mb (m61 F v3 v1) fun v4 => mb (pr 1000 v2 v4) fun _ => mr v4
theorem t58_20 {sc : Nat × (Nat → Int32)} {F : Nat} {r : Option Nat} {h' : xv_H} {l0 : Option Nat} {l1 : Int32} {l2 : Int32} {d3 : Option Value} {h : xv_H} (e : b58_20 F l0 l1 l2 h = some (r, h')) : xx sc 58 20 [some (va_rf l0), some (.int l1), some (.int l2), d3] [] h (fun v g => v = some (va_rf r) ∧ g = h') := by
  unfold b58_20 at e
  refine xo_iload_n rfl rfl ?_
  refine xo_iload_n rfl rfl ?_
  refine xo_iload_n rfl rfl ?_
  refine xo_isub rfl ?_
  refine xo_iload_n rfl rfl ?_
  refine xo_iconstV (x := 1) rfl (by decide) ?_
  refine xo_ishr rfl ?_
  refine d_static_i (av := [.int l2, .int (l1 - l2), .int (l2 >>> ((1 : Int32) &&& 31))]) (rest := []) rfl ⟨by decide, by decide, by decide⟩ rfl rfl (by simp [xv_fit, va_rf_cat, cat_int, cat_long, cat_ref, cat_null, show xt_mx 59 = 4 from rfl, show xt_lg 59 = [] from rfl]) (by simp [xv_room, va_rf_cat, cat_int, cat_long, cat_ref, cat_null]) (fun x0 h1 e1 => t59 e1) e (fun v1 h e => ?_)
  refine xo_istore_n rfl (Nat.le_of_ble_eq_true rfl) rfl ?_
  refine xo_aload_nQ (w := l0) rfl rfl ?_
  refine xo_aload_nQ (w := l0) rfl rfl ?_
  refine d_nn e (fun v2 g e1 => ?_)
  subst g
  replace e := e1
  clear e1
  refine d_getr rfl e (fun v3 e => ?_)
  refine xo_iload_n rfl rfl ?_
  refine d_static_a (av := [va_rf v3, .int v1]) (rest := [va_rf (some v2)]) rfl ⟨by decide, by decide, by decide⟩ rfl rfl (by simp [xv_fit, va_rf_cat, cat_int, cat_long, cat_ref, cat_null, show xt_mx 61 = 2 from rfl, show xt_lg 61 = [] from rfl]) (by simp [xv_room, va_rf_cat, cat_int, cat_long, cat_ref, cat_null]) (fun x0 h1 e1 => t61 e1) e (fun v4 h e => ?_)
  refine xo_dup_x1 rfl (by first | rfl | exact va_rf_cat _) (by first | rfl | exact va_rf_cat _) ?_
  refine d_putr (w := v4) rfl e (fun h e => ?_)
  exact d_aret rfl e
def b58_10 (F : Nat) (l0 : Option Nat) (l1 : Int32) (l2 : Int32) : xm (Option Nat) := mb (nn l0) fun v1 => mb (gr 1000 v1) fun v2 => mb (cq v2 (some (xv_SB + 2))) fun _ => if v2 = (some (xv_SB + 2)) then b58_45 F (some v1) l1 else b58_20 F (some v1) l1 l2
theorem t58_10 {sc : Nat × (Nat → Int32)} {F : Nat} {r : Option Nat} {h' : xv_H} {l0 : Option Nat} {l1 : Int32} {l2 : Int32} {d3 : Option Value} {h : xv_H} (e : b58_10 F l0 l1 l2 h = some (r, h')) : xx sc 58 10 [some (va_rf l0), some (.int l1), some (.int l2), d3] [] h (fun v g => v = some (va_rf r) ∧ g = h') := by
  unfold b58_10 at e
  refine xo_aload_nQ (w := l0) rfl rfl ?_
  refine d_nn e (fun v1 g e1 => ?_)
  subst g
  replace e := e1
  clear e1
  refine d_getr rfl e (fun v2 e => ?_)
  refine xo_getsV rfl ?_
  refine d_acmp_eq (w1 := v2) (w2 := (some (xv_SB + 2))) rfl rfl e (fun _ e => ?_) (fun _ e => ?_)
  · exact t58_45 e
  · exact t58_20 e
def b58_0 (F : Nat) (l0 : Option Nat) (l1 : Int32) : xm (Option Nat) := mb (nn l0) fun v1 => mb (gr 1000 v1) fun v2 => mb (nn v2) fun v3 => mb (len 109 1 v3) fun v4 => if 0 < v4 then b58_20 F (some v1) l1 v4 else b58_10 F (some v1) l1 v4
theorem t58_0 {sc : Nat × (Nat → Int32)} {F : Nat} {r : Option Nat} {h' : xv_H} {l0 : Option Nat} {l1 : Int32} {d2 d3 : Option Value} {h : xv_H} (e : b58_0 F l0 l1 h = some (r, h')) : xx sc 58 0 [some (va_rf l0), some (.int l1), d2, d3] [] h (fun v g => v = some (va_rf r) ∧ g = h') := by
  unfold b58_0 at e
  refine xo_aload_nQ (w := l0) rfl rfl ?_
  refine d_nn e (fun v1 g e1 => ?_)
  subst g
  replace e := e1
  clear e1
  refine d_getr rfl e (fun v2 e => ?_)
  refine d_nn e (fun v3 g e1 => ?_)
  subst g
  replace e := e1
  clear e1
  refine d_len rfl e (fun v4 e => ?_)
  refine xo_istore_n rfl (Nat.le_of_ble_eq_true rfl) rfl ?_
  refine xo_iload_n rfl rfl ?_
  refine d_if_gt rfl rfl e (fun _ e => ?_) (fun _ e => ?_)
  · exact t58_20 e
  · exact t58_10 e
def m58 (F : Nat) (this : Nat) (p0 : Int32) : xm (Option Nat) := b58_0 F (some this) p0
theorem t58 {sc : Nat × (Nat → Int32)} {F : Nat} {this : Nat} {p0 : Int32} {h : xv_H} {r : Option Nat} {h' : xv_H} (e : m58 F this p0 h = some (r, h')) : xr sc 58 [.ref this, .int p0] h (fun v g => v = some (va_rf r) ∧ g = h') := by
  have e0 : xv_ent (xt_mx 58) [.ref this, .int p0] = [some (va_rf (some this)), some (.int p0), none, none] := by simp [xv_ent, xv_sl, va_rf_cat, cat_int, cat_long, cat_ref, cat_null, va_rf_some, show xt_mx 58 = 4 from rfl]
  unfold xr
  rw [e0]
  exact t58_0 e
