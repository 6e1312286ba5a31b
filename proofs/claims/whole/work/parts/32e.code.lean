-- CellTree$Content.covers(I)Z
def b85_21 (F : Nat) (s0 : Int32) : xm Int32 := mb (bz s0) fun _ => mr s0
theorem t85_21 {sc : Nat × (Nat → Int32)} {F : Nat} {r : Int32} {h' : xv_H} {s0 : Int32} {d0 d1 : Option Value} {h : xv_H} (e : b85_21 F s0 h = some (r, h')) : xx sc 85 21 [d0, d1] [.int s0] h (fun v g => v = some (.int r) ∧ g = h') := by
  unfold b85_21 at e
  exact d_zret rfl e
def b85_20 (F : Nat) : xm Int32 := b85_21 F (0 : Int32)
theorem t85_20 {sc : Nat × (Nat → Int32)} {F : Nat} {r : Int32} {h' : xv_H} {d0 d1 : Option Value} {h : xv_H} (e : b85_20 F h = some (r, h')) : xx sc 85 20 [d0, d1] [] h (fun v g => v = some (.int r) ∧ g = h') := by
  unfold b85_20 at e
  refine xo_iconstV (x := 0) rfl (by decide) ?_
  exact t85_21 e
def b85_16 (F : Nat) : xm Int32 := b85_21 F (1 : Int32)
theorem t85_16 {sc : Nat × (Nat → Int32)} {F : Nat} {r : Int32} {h' : xv_H} {d0 d1 : Option Value} {h : xv_H} (e : b85_16 F h = some (r, h')) : xx sc 85 16 [d0, d1] [] h (fun v g => v = some (.int r) ∧ g = h') := by
  unfold b85_16 at e
  refine xo_iconstV (x := 1) rfl (by decide) ?_
  refine xo_goto rfl rfl ?_
  exact t85_21 e
def b85_8 (F : Nat) (l0 : Option Nat) (l1 : Int32) : xm Int32 := mb (nn l0) fun v1 => mb (gi 602 v1) fun v2 => if v2 ≤ l1 then b85_20 F else b85_16 F
theorem t85_8 {sc : Nat × (Nat → Int32)} {F : Nat} {r : Int32} {h' : xv_H} {l0 : Option Nat} {l1 : Int32} {h : xv_H} (e : b85_8 F l0 l1 h = some (r, h')) : xx sc 85 8 [some (va_rf l0), some (.int l1)] [] h (fun v g => v = some (.int r) ∧ g = h') := by
  unfold b85_8 at e
  refine xo_iload_n rfl rfl ?_
  refine xo_aload_nQ (w := l0) rfl rfl ?_
  refine d_nn e (fun v1 g e1 => ?_)
  subst g
  replace e := e1
  clear e1
  refine d_geti rfl e (fun v2 e => ?_)
  refine d_icmp_ge rfl rfl e (fun _ e => ?_) (fun _ e => ?_)
  · exact t85_20 e
  · exact t85_16 e
def b85_0 (F : Nat) (l0 : Option Nat) (l1 : Int32) : xm Int32 := mb (nn l0) fun v1 => mb (gi 601 v1) fun v2 => if l1 < v2 then b85_20 F else b85_8 F (some v1) l1
theorem t85_0 {sc : Nat × (Nat → Int32)} {F : Nat} {r : Int32} {h' : xv_H} {l0 : Option Nat} {l1 : Int32} {h : xv_H} (e : b85_0 F l0 l1 h = some (r, h')) : xx sc 85 0 [some (va_rf l0), some (.int l1)] [] h (fun v g => v = some (.int r) ∧ g = h') := by
  unfold b85_0 at e
  refine xo_aload_nQ (w := l0) rfl rfl ?_
  refine d_nn e (fun v1 g e1 => ?_)
  subst g
  replace e := e1
  clear e1
  refine d_geti rfl e (fun v2 e => ?_)
  refine xo_iload_n rfl rfl ?_
  refine d_icmp_gt rfl rfl e (fun _ e => ?_) (fun _ e => ?_)
  · exact t85_20 e
  · exact t85_8 e
def m85 (F : Nat) (this : Nat) (p0 : Int32) : xm Int32 := b85_0 F (some this) p0
theorem t85 {sc : Nat × (Nat → Int32)} {F : Nat} {this : Nat} {p0 : Int32} {h : xv_H} {r : Int32} {h' : xv_H} (e : m85 F this p0 h = some (r, h')) : xr sc 85 [.ref this, .int p0] h (fun v g => v = some (.int r) ∧ g = h') := by
  have e0 : xv_ent (xt_mx 85) [.ref this, .int p0] = [some (va_rf (some this)), some (.int p0)] := by simp [xv_ent, xv_sl, va_rf_cat, cat_int, cat_long, cat_ref, cat_null, va_rf_some, show xt_mx 85 = 2 from rfl]
  unfold xr
  rw [e0]
  exact t85_0 e
-- CellTree$Client.look(LCellTree$Cell;)V
def b84_74 (F : Nat) : xm Unit := mr ()
theorem t84_74 {sc : Nat × (Nat → Int32)} {F : Nat} {r : Unit} {h' : xv_H} {d0 d1 d2 : Option Value} {h : xv_H} (e : b84_74 F h = some (r, h')) : xx sc 84 74 [d0, d1, d2] [] h (fun v g => v = none ∧ g = h') := by
  unfold b84_74 at e
  exact d_ret rfl e
def b84_71 (F : Nat) (s0 : Option Nat) (s1 : Option Nat) : xm Unit := mb (nn s1) fun v1 => mb (pr 109 v1 s0) fun _ => b84_74 F
theorem t84_71 {sc : Nat × (Nat → Int32)} {F : Nat} {r : Unit} {h' : xv_H} {s0 : Option Nat} {s1 : Option Nat} {d0 d1 d2 : Option Value} {h : xv_H} (e : b84_71 F s0 s1 h = some (r, h')) : xx sc 84 71 [d0, d1, d2] [va_rf s0, va_rf s1] h (fun v g => v = none ∧ g = h') := by
  unfold b84_71 at e
  refine d_nn e (fun v1 g e1 => ?_)
  subst g
  replace e := e1
  clear e1
  refine d_putr (w := s0) rfl e (fun h e => ?_)
  exact t84_74 e
def b84_68 (F : Nat) (s0 : Option Nat) : xm Unit := b84_71 F (some (xv_SB + 16)) s0
theorem t84_68 {sc : Nat × (Nat → Int32)} {F : Nat} {r : Unit} {h' : xv_H} {s0 : Option Nat} {d0 d1 d2 : Option Value} {h : xv_H} (e : b84_68 F s0 h = some (r, h')) : xx sc 84 68 [d0, d1, d2] [va_rf s0] h (fun v g => v = none ∧ g = h') := by
  unfold b84_68 at e
  refine xo_getsV rfl ?_
  exact t84_71 e
def b84_62 (F : Nat) (s0 : Option Nat) : xm Unit := b84_71 F (some (xv_SB + 17)) s0
theorem t84_62 {sc : Nat × (Nat → Int32)} {F : Nat} {r : Unit} {h' : xv_H} {s0 : Option Nat} {d0 d1 d2 : Option Value} {h : xv_H} (e : b84_62 F s0 h = some (r, h')) : xx sc 84 62 [d0, d1, d2] [va_rf s0] h (fun v g => v = none ∧ g = h') := by
  unfold b84_62 at e
  refine xo_getsV rfl ?_
  refine xo_goto rfl rfl ?_
  exact t84_71 e
def b84_57 (F : Nat) (l0 : Option Nat) (l2 : Int32) : xm Unit := if l2 = 0 then b84_68 F l0 else b84_62 F l0
theorem t84_57 {sc : Nat × (Nat → Int32)} {F : Nat} {r : Unit} {h' : xv_H} {l0 : Option Nat} {l2 : Int32} {d1 : Option Value} {h : xv_H} (e : b84_57 F l0 l2 h = some (r, h')) : xx sc 84 57 [some (va_rf l0), d1, some (.int l2)] [] h (fun v g => v = none ∧ g = h') := by
  unfold b84_57 at e
  refine xo_aload_nQ (w := l0) rfl rfl ?_
  refine xo_iload_n rfl rfl ?_
  refine d_if_eq rfl rfl e (fun _ e => ?_) (fun _ e => ?_)
  · exact t84_68 e
  · exact t84_62 e
def b84_50 (F : Nat) (l0 : Option Nat) : xm Unit := mb (nn l0) fun v1 => mb (vc 1 v1) fun _ => mb (m80 F v1) fun _ => b84_74 F
theorem t84_50 {sc : Nat × (Nat → Int32)} {F : Nat} {r : Unit} {h' : xv_H} {l0 : Option Nat} {d1 d2 : Option Value} {h : xv_H} (e : b84_50 F l0 h = some (r, h')) : xx sc 84 50 [some (va_rf l0), d1, d2] [] h (fun v g => v = none ∧ g = h') := by
  unfold b84_50 at e
  refine xo_aload_nQ (w := l0) rfl rfl ?_
  refine d_nn e (fun v1 g e1 => ?_)
  subst g
  replace e := e1
  clear e1
  refine d_virtual_v (av := []) (rest := []) rfl ⟨by decide, by decide⟩ rfl rfl (by simp [xv_fit, va_rf_cat, cat_int, cat_long, cat_ref, cat_null, show xt_mx 80 = 1 from rfl, show xt_lg 80 = [] from rfl]) (by simp [xv_room, va_rf_cat, cat_int, cat_long, cat_ref, cat_null]) (fun x0 h1 e1 => t80 e1) e (fun _ h e => ?_)
  refine xo_goto rfl rfl ?_
  exact t84_74 e
def b84_31 (F : Nat) (l0 : Option Nat) (l1 : Option Nat) (l2 : Int32) : xm Unit := mb (nn l0) fun v1 => mb (pr 106 v1 l1) fun _ => mb (nn l1) fun v2 => mb (gr 701 v2) fun v3 => mb (gi 105 v1) fun v4 => mb (nn v3) fun v5 => mb (vc 6 v5) fun _ => mb (m85 F v5 v4) fun v6 => if ¬ v6 = 0 then b84_57 F (some v1) l2 else b84_50 F (some v1)
theorem t84_31 {sc : Nat × (Nat → Int32)} {F : Nat} {r : Unit} {h' : xv_H} {l0 : Option Nat} {l1 : Option Nat} {l2 : Int32} {h : xv_H} (e : b84_31 F l0 l1 l2 h = some (r, h')) : xx sc 84 31 [some (va_rf l0), some (va_rf l1), some (.int l2)] [] h (fun v g => v = none ∧ g = h') := by
  unfold b84_31 at e
  refine xo_aload_nQ (w := l0) rfl rfl ?_
  refine xo_aload_nQ (w := l1) rfl rfl ?_
  refine d_nn e (fun v1 g e1 => ?_)
  subst g
  replace e := e1
  clear e1
  refine d_putr (w := l1) rfl e (fun h e => ?_)
  refine xo_aload_nQ (w := l1) rfl rfl ?_
  refine d_nn e (fun v2 g e1 => ?_)
  subst g
  replace e := e1
  clear e1
  refine d_getr rfl e (fun v3 e => ?_)
  refine xo_aload_nQ (w := (some v1)) rfl rfl ?_
  refine d_geti rfl e (fun v4 e => ?_)
  refine d_nn e (fun v5 g e1 => ?_)
  subst g
  replace e := e1
  clear e1
  refine d_virtual_i (av := [.int v4]) (rest := []) rfl ⟨by decide, by decide⟩ rfl rfl (by simp [xv_fit, va_rf_cat, cat_int, cat_long, cat_ref, cat_null, show xt_mx 85 = 2 from rfl, show xt_lg 85 = [] from rfl]) (by simp [xv_room, va_rf_cat, cat_int, cat_long, cat_ref, cat_null]) (fun x0 h1 e1 => t85 e1) e (fun v6 h e => ?_)
  refine d_if_ne rfl rfl e (fun _ e => ?_) (fun _ e => ?_)
  · exact t84_57 e
  · exact t84_50 e
def b84_21 (F : Nat) (l0 : Option Nat) (l1 : Option Nat) (l2 : Int32) : xm Unit := mb (nn l0) fun v1 => mb (gr 101 v1) fun v2 => mb (vc 1 v1) fun _ => mb (m19 F v1) fun v3 => mb (nn v2) fun v4 => mb (sr 108 v4 v3 l1) fun _ => b84_31 F (some v1) l1 l2
theorem t84_21 {sc : Nat × (Nat → Int32)} {F : Nat} {r : Unit} {h' : xv_H} {l0 : Option Nat} {l1 : Option Nat} {l2 : Int32} {h : xv_H} (e : b84_21 F l0 l1 l2 h = some (r, h')) : xx sc 84 21 [some (va_rf l0), some (va_rf l1), some (.int l2)] [] h (fun v g => v = none ∧ g = h') := by
  unfold b84_21 at e
  refine xo_aload_nQ (w := l0) rfl rfl ?_
  refine d_nn e (fun v1 g e1 => ?_)
  subst g
  replace e := e1
  clear e1
  refine d_getr rfl e (fun v2 e => ?_)
  refine xo_aload_nQ (w := (some v1)) rfl rfl ?_
  refine d_virtual_i (av := []) (rest := [va_rf v2]) rfl ⟨by decide, by decide⟩ rfl rfl (by simp [xv_fit, va_rf_cat, cat_int, cat_long, cat_ref, cat_null, show xt_mx 19 = 1 from rfl, show xt_lg 19 = [] from rfl]) (by simp [xv_room, va_rf_cat, cat_int, cat_long, cat_ref, cat_null]) (fun x0 h1 e1 => t19 e1) e (fun v3 h e => ?_)
  refine xo_aload_nQ (w := l1) rfl rfl ?_
  refine d_nn e (fun v4 g e1 => ?_)
  subst g
  replace e := e1
  clear e1
  refine d_aast (w := l1) rfl e (fun h e => ?_)
  exact t84_31 e
def b84_16 (F : Nat) (s0 : Int32) (l0 : Option Nat) (l1 : Option Nat) : xm Unit := if s0 = 0 then b84_31 F l0 l1 s0 else b84_21 F l0 l1 s0
theorem t84_16 {sc : Nat × (Nat → Int32)} {F : Nat} {r : Unit} {h' : xv_H} {s0 : Int32} {l0 : Option Nat} {l1 : Option Nat} {d2 : Option Value} {h : xv_H} (e : b84_16 F s0 l0 l1 h = some (r, h')) : xx sc 84 16 [some (va_rf l0), some (va_rf l1), d2] [.int s0] h (fun v g => v = none ∧ g = h') := by
  unfold b84_16 at e
  refine xo_istore_n rfl (Nat.le_of_ble_eq_true rfl) rfl ?_
  refine xo_iload_n rfl rfl ?_
  refine d_if_eq rfl rfl e (fun _ e => ?_) (fun _ e => ?_)
  · exact t84_31 e
  · exact t84_21 e
def b84_15 (F : Nat) (l0 : Option Nat) (l1 : Option Nat) : xm Unit := b84_16 F (0 : Int32) l0 l1
theorem t84_15 {sc : Nat × (Nat → Int32)} {F : Nat} {r : Unit} {h' : xv_H} {l0 : Option Nat} {l1 : Option Nat} {d2 : Option Value} {h : xv_H} (e : b84_15 F l0 l1 h = some (r, h')) : xx sc 84 15 [some (va_rf l0), some (va_rf l1), d2] [] h (fun v g => v = none ∧ g = h') := by
  unfold b84_15 at e
  refine xo_iconstV (x := 0) rfl (by decide) ?_
  exact t84_16 e
def b84_11 (F : Nat) (l0 : Option Nat) (l1 : Option Nat) : xm Unit := b84_16 F (1 : Int32) l0 l1
theorem t84_11 {sc : Nat × (Nat → Int32)} {F : Nat} {r : Unit} {h' : xv_H} {l0 : Option Nat} {l1 : Option Nat} {d2 : Option Value} {h : xv_H} (e : b84_11 F l0 l1 h = some (r, h')) : xx sc 84 11 [some (va_rf l0), some (va_rf l1), d2] [] h (fun v g => v = none ∧ g = h') := by
  unfold b84_11 at e
  refine xo_iconstV (x := 1) rfl (by decide) ?_
  refine xo_goto rfl rfl ?_
  exact t84_16 e
def b84_0 (F : Nat) (l0 : Option Nat) (l1 : Option Nat) : xm Unit := mb (nn l1) fun v1 => mb (gr 701 v1) fun v2 => mb (nn v2) fun v3 => mb (gi 600 v3) fun v4 => if ¬ v4 = (2 : Int32) then b84_15 F l0 (some v1) else b84_11 F l0 (some v1)
theorem t84_0 {sc : Nat × (Nat → Int32)} {F : Nat} {r : Unit} {h' : xv_H} {l0 : Option Nat} {l1 : Option Nat} {d2 : Option Value} {h : xv_H} (e : b84_0 F l0 l1 h = some (r, h')) : xx sc 84 0 [some (va_rf l0), some (va_rf l1), d2] [] h (fun v g => v = none ∧ g = h') := by
  unfold b84_0 at e
  refine xo_aload_nQ (w := l1) rfl rfl ?_
  refine d_nn e (fun v1 g e1 => ?_)
  subst g
  replace e := e1
  clear e1
  refine d_getr rfl e (fun v2 e => ?_)
  refine d_nn e (fun v3 g e1 => ?_)
  subst g
  replace e := e1
  clear e1
  refine d_geti rfl e (fun v4 e => ?_)
  refine xo_iconstV (x := 2) rfl (by decide) ?_
  refine d_icmp_ne rfl rfl e (fun _ e => ?_) (fun _ e => ?_)
  · exact t84_15 e
  · exact t84_11 e
def m84 (F : Nat) (this : Nat) (p0 : Option Nat) : xm Unit := b84_0 F (some this) p0
theorem t84 {sc : Nat × (Nat → Int32)} {F : Nat} {this : Nat} {p0 : Option Nat} {h : xv_H} {r : Unit} {h' : xv_H} (e : m84 F this p0 h = some (r, h')) : xr sc 84 [.ref this, va_rf p0] h (fun v g => v = none ∧ g = h') := by
  have e0 : xv_ent (xt_mx 84) [.ref this, va_rf p0] = [some (va_rf (some this)), some (va_rf p0), none] := by simp [xv_ent, xv_sl, va_rf_cat, cat_int, cat_long, cat_ref, cat_null, va_rf_some, show xt_mx 84 = 3 from rfl]
  unfold xr
  rw [e0]
  exact t84_0 e
-- CellTree$Client.goOn(LCellTree$Cell;)V
def b83_53 (F : Nat) : xm Unit := mr ()
theorem t83_53 {sc : Nat × (Nat → Int32)} {F : Nat} {r : Unit} {h' : xv_H} {d0 d1 : Option Value} {h : xv_H} (e : b83_53 F h = some (r, h')) : xx sc 83 53 [d0, d1] [] h (fun v g => v = none ∧ g = h') := by
  unfold b83_53 at e
  exact d_ret rfl e
def b83_46 (F : Nat) (l0 : Option Nat) : xm Unit := mb (nn l0) fun v1 => mb (gr 102 v1) fun v2 => mb (nn v2) fun v3 => mb (vc 2 v3) fun _ => mb (m21 F v3) fun _ => b83_53 F
theorem t83_46 {sc : Nat × (Nat → Int32)} {F : Nat} {r : Unit} {h' : xv_H} {l0 : Option Nat} {d1 : Option Value} {h : xv_H} (e : b83_46 F l0 h = some (r, h')) : xx sc 83 46 [some (va_rf l0), d1] [] h (fun v g => v = none ∧ g = h') := by
  unfold b83_46 at e
  refine xo_aload_nQ (w := l0) rfl rfl ?_
  refine d_nn e (fun v1 g e1 => ?_)
  subst g
  replace e := e1
  clear e1
  refine d_getr rfl e (fun v2 e => ?_)
  refine d_nn e (fun v3 g e1 => ?_)
  subst g
  replace e := e1
  clear e1
  refine d_virtual_v (av := []) (rest := []) rfl ⟨by decide, by decide⟩ rfl rfl (by simp [xv_fit, va_rf_cat, cat_int, cat_long, cat_ref, cat_null, show xt_mx 21 = 1 from rfl, show xt_lg 21 = [] from rfl]) (by simp [xv_room, va_rf_cat, cat_int, cat_long, cat_ref, cat_null]) (fun x0 h1 e1 => t21 e1) e (fun _ h e => ?_)
  exact t83_53 e
def b83_32 (F : Nat) (l0 : Option Nat) : xm Unit := mb (nn l0) fun v1 => mb (vc 1 v1) fun _ => mb (m81 F v1) fun _ => mb (pr 109 v1 (some (xv_SB + 15))) fun _ => b83_53 F
theorem t83_32 {sc : Nat × (Nat → Int32)} {F : Nat} {r : Unit} {h' : xv_H} {l0 : Option Nat} {d1 : Option Value} {h : xv_H} (e : b83_32 F l0 h = some (r, h')) : xx sc 83 32 [some (va_rf l0), d1] [] h (fun v g => v = none ∧ g = h') := by
  unfold b83_32 at e
  refine xo_aload_nQ (w := l0) rfl rfl ?_
  refine d_nn e (fun v1 g e1 => ?_)
  subst g
  replace e := e1
  clear e1
  refine d_virtual_v (av := []) (rest := []) rfl ⟨by decide, by decide⟩ rfl rfl (by simp [xv_fit, va_rf_cat, cat_int, cat_long, cat_ref, cat_null, show xt_mx 81 = 2 from rfl, show xt_lg 81 = [] from rfl]) (by simp [xv_room, va_rf_cat, cat_int, cat_long, cat_ref, cat_null]) (fun x0 h1 e1 => t81 e1) e (fun _ h e => ?_)
  refine xo_aload_nQ (w := (some v1)) rfl rfl ?_
  refine xo_getsV rfl ?_
  refine d_putr (w := (some (xv_SB + 15))) rfl e (fun h e => ?_)
  refine xo_goto rfl rfl ?_
  exact t83_53 e
def b83_22 (F : Nat) (l0 : Option Nat) : xm Unit := mb (nn l0) fun v1 => mb (gr 110 v1) fun v2 => mb (cq v2 (some (xv_SB + 14))) fun _ => if ¬ v2 = (some (xv_SB + 14)) then b83_46 F (some v1) else b83_32 F (some v1)
theorem t83_22 {sc : Nat × (Nat → Int32)} {F : Nat} {r : Unit} {h' : xv_H} {l0 : Option Nat} {d1 : Option Value} {h : xv_H} (e : b83_22 F l0 h = some (r, h')) : xx sc 83 22 [some (va_rf l0), d1] [] h (fun v g => v = none ∧ g = h') := by
  unfold b83_22 at e
  refine xo_aload_nQ (w := l0) rfl rfl ?_
  refine d_nn e (fun v1 g e1 => ?_)
  subst g
  replace e := e1
  clear e1
  refine d_getr rfl e (fun v2 e => ?_)
  refine xo_getsV rfl ?_
  refine d_acmp_ne (w1 := v2) (w2 := (some (xv_SB + 14))) rfl rfl e (fun _ e => ?_) (fun _ e => ?_)
  · exact t83_46 e
  · exact t83_32 e
def b83_14 (F : Nat) (l0 : Option Nat) (l1 : Option Nat) : xm Unit := mb (nn l0) fun v1 => mb (vc 1 v1) fun _ => mb (m84 F v1 l1) fun _ => b83_53 F
theorem t83_14 {sc : Nat × (Nat → Int32)} {F : Nat} {r : Unit} {h' : xv_H} {l0 : Option Nat} {l1 : Option Nat} {h : xv_H} (e : b83_14 F l0 l1 h = some (r, h')) : xx sc 83 14 [some (va_rf l0), some (va_rf l1)] [] h (fun v g => v = none ∧ g = h') := by
  unfold b83_14 at e
  refine xo_aload_nQ (w := l0) rfl rfl ?_
  refine xo_aload_nQ (w := l1) rfl rfl ?_
  refine d_nn e (fun v1 g e1 => ?_)
  subst g
  replace e := e1
  clear e1
  refine d_virtual_v (av := [va_rf l1]) (rest := []) rfl ⟨by decide, by decide⟩ rfl rfl (by simp [xv_fit, va_rf_cat, cat_int, cat_long, cat_ref, cat_null, show xt_mx 84 = 3 from rfl, show xt_lg 84 = [] from rfl]) (by simp [xv_room, va_rf_cat, cat_int, cat_long, cat_ref, cat_null]) (fun x0 h1 e1 => t84 e1) e (fun _ h e => ?_)
  refine xo_goto rfl rfl ?_
  exact t83_53 e
def b83_10 (F : Nat) (l0 : Option Nat) (l1 : Option Nat) : xm Unit := if l1 = none then b83_22 F l0 else b83_14 F l0 l1
theorem t83_10 {sc : Nat × (Nat → Int32)} {F : Nat} {r : Unit} {h' : xv_H} {l0 : Option Nat} {l1 : Option Nat} {h : xv_H} (e : b83_10 F l0 l1 h = some (r, h')) : xx sc 83 10 [some (va_rf l0), some (va_rf l1)] [] h (fun v g => v = none ∧ g = h') := by
  unfold b83_10 at e
  refine xo_aload_nQ (w := l1) rfl rfl ?_
  refine d_ifnull (w := l1) rfl rfl e (fun _ e => ?_) (fun _ e => ?_)
  · exact t83_22 e
  · exact t83_14 e
def b83_0 (F : Nat) (l0 : Option Nat) (l1 : Option Nat) : xm Unit := mb (nn l0) fun v1 => mb (gr 110 v1) fun v2 => mb (cq v2 (some (xv_SB + 12))) fun _ => if ¬ v2 = (some (xv_SB + 12)) then b83_22 F (some v1) else b83_10 F (some v1) l1
theorem t83_0 {sc : Nat × (Nat → Int32)} {F : Nat} {r : Unit} {h' : xv_H} {l0 : Option Nat} {l1 : Option Nat} {h : xv_H} (e : b83_0 F l0 l1 h = some (r, h')) : xx sc 83 0 [some (va_rf l0), some (va_rf l1)] [] h (fun v g => v = none ∧ g = h') := by
  unfold b83_0 at e
  refine xo_aload_nQ (w := l0) rfl rfl ?_
  refine d_nn e (fun v1 g e1 => ?_)
  subst g
  replace e := e1
  clear e1
  refine d_getr rfl e (fun v2 e => ?_)
  refine xo_getsV rfl ?_
  refine d_acmp_ne (w1 := v2) (w2 := (some (xv_SB + 12))) rfl rfl e (fun _ e => ?_) (fun _ e => ?_)
  · exact t83_22 e
  · exact t83_10 e
def m83 (F : Nat) (this : Nat) (p0 : Option Nat) : xm Unit := b83_0 F (some this) p0
theorem t83 {sc : Nat × (Nat → Int32)} {F : Nat} {this : Nat} {p0 : Option Nat} {h : xv_H} {r : Unit} {h' : xv_H} (e : m83 F this p0 h = some (r, h')) : xr sc 83 [.ref this, va_rf p0] h (fun v g => v = none ∧ g = h') := by
  have e0 : xv_ent (xt_mx 83) [.ref this, va_rf p0] = [some (va_rf (some this)), some (va_rf p0)] := by simp [xv_ent, xv_sl, va_rf_cat, cat_int, cat_long, cat_ref, cat_null, va_rf_some, show xt_mx 83 = 2 from rfl]
  unfold xr
  rw [e0]
  exact t83_0 e
-- CellTree.hearAnswer(LCellTree$Message;)V
def b77_105 (F : Nat) (l0 : Option Nat) (l2 : Option Nat) : xm Unit := mb (nn l2) fun v1 => mb (vc 1 v1) fun _ => mb (m14 F v1) fun _ => mb (nn l0) fun v2 => mb (vc 0 v2) fun _ => mb (m50 F v2 (some v1)) fun _ => mr ()
theorem t77_105 {sc : Nat × (Nat → Int32)} {F : Nat} {r : Unit} {h' : xv_H} {l0 : Option Nat} {l2 : Option Nat} {d1 : Option Value} {h : xv_H} (e : b77_105 F l0 l2 h = some (r, h')) : xx sc 77 105 [some (va_rf l0), d1, some (va_rf l2)] [] h (fun v g => v = none ∧ g = h') := by
  unfold b77_105 at e
  refine xo_aload_nQ (w := l2) rfl rfl ?_
  refine d_nn e (fun v1 g e1 => ?_)
  subst g
  replace e := e1
  clear e1
  refine d_virtual_v (av := []) (rest := []) rfl ⟨by decide, by decide⟩ rfl rfl (by simp [xv_fit, va_rf_cat, cat_int, cat_long, cat_ref, cat_null, show xt_mx 14 = 1 from rfl, show xt_lg 14 = [] from rfl]) (by simp [xv_room, va_rf_cat, cat_int, cat_long, cat_ref, cat_null]) (fun x0 h1 e1 => t14 e1) e (fun _ h e => ?_)
  refine xo_aload_nQ (w := l0) rfl rfl ?_
  refine xo_aload_nQ (w := (some v1)) rfl rfl ?_
  refine d_nn e (fun v2 g e1 => ?_)
  subst g
  replace e := e1
  clear e1
  refine d_virtual_v (av := [va_rf (some v1)]) (rest := []) rfl ⟨by decide, by decide⟩ rfl rfl (by simp [xv_fit, va_rf_cat, cat_int, cat_long, cat_ref, cat_null, show xt_mx 50 = 3 from rfl, show xt_lg 50 = [] from rfl]) (by simp [xv_room, va_rf_cat, cat_int, cat_long, cat_ref, cat_null]) (fun x0 h1 e1 => t50 e1) e (fun _ h e => ?_)
  exact d_ret rfl e
def b77_82 (F : Nat) (l0 : Option Nat) (l1 : Option Nat) (l2 : Option Nat) : xm Unit := mb (nn l2) fun v1 => mb (pr 111 v1 none) fun _ => mb (nn l1) fun v2 => mb (gr 801 v2) fun v3 => mb (nn l0) fun v4 => mb (vc 0 v4) fun _ => mb (m78 F v4 (4 : Int32) v3 (-1 : Int32)) fun _ => mb (gr 803 v2) fun v5 => mb (vc 1 v1) fun _ => mb (m83 F v1 v5) fun _ => b77_105 F (some v4) (some v1)
theorem t77_82 {sc : Nat × (Nat → Int32)} {F : Nat} {r : Unit} {h' : xv_H} {l0 : Option Nat} {l1 : Option Nat} {l2 : Option Nat} {h : xv_H} (e : b77_82 F l0 l1 l2 h = some (r, h')) : xx sc 77 82 [some (va_rf l0), some (va_rf l1), some (va_rf l2)] [] h (fun v g => v = none ∧ g = h') := by
  unfold b77_82 at e
  refine xo_aload_nQ (w := l2) rfl rfl ?_
  refine xo_nullV rfl ?_
  refine d_nn e (fun v1 g e1 => ?_)
  subst g
  replace e := e1
  clear e1
  refine d_putr (w := none) rfl e (fun h e => ?_)
  refine xo_aload_nQ (w := l0) rfl rfl ?_
  refine xo_iconstV (x := 4) rfl (by decide) ?_
  refine xo_aload_nQ (w := l1) rfl rfl ?_
  refine d_nn e (fun v2 g e1 => ?_)
  subst g
  replace e := e1
  clear e1
  refine d_getr rfl e (fun v3 e => ?_)
  refine xo_iconstV (x := (-1)) rfl (by decide) ?_
  refine d_nn e (fun v4 g e1 => ?_)
  subst g
  replace e := e1
  clear e1
  refine d_virtual_v (av := [.int (4 : Int32), va_rf v3, .int (-1 : Int32)]) (rest := []) rfl ⟨by decide, by decide⟩ rfl rfl (by simp [xv_fit, va_rf_cat, cat_int, cat_long, cat_ref, cat_null, show xt_mx 78 = 5 from rfl, show xt_lg 78 = [] from rfl]) (by simp [xv_room, va_rf_cat, cat_int, cat_long, cat_ref, cat_null]) (fun x0 h1 e1 => t78 e1) e (fun _ h e => ?_)
  refine xo_aload_nQ (w := (some v1)) rfl rfl ?_
  refine xo_aload_nQ (w := (some v2)) rfl rfl ?_
  refine d_getr rfl e (fun v5 e => ?_)
  refine d_virtual_v (av := [va_rf v5]) (rest := []) rfl ⟨by decide, by decide⟩ rfl rfl (by simp [xv_fit, va_rf_cat, cat_int, cat_long, cat_ref, cat_null, show xt_mx 83 = 2 from rfl, show xt_lg 83 = [] from rfl]) (by simp [xv_room, va_rf_cat, cat_int, cat_long, cat_ref, cat_null]) (fun x0 h1 e1 => t83 e1) e (fun _ h e => ?_)
  exact t77_105 e
def b77_81 (F : Nat) : xm Unit := mr ()
theorem t77_81 {sc : Nat × (Nat → Int32)} {F : Nat} {r : Unit} {h' : xv_H} {d0 d1 d2 : Option Value} {h : xv_H} (e : b77_81 F h = some (r, h')) : xx sc 77 81 [d0, d1, d2] [] h (fun v g => v = none ∧ g = h') := by
  unfold b77_81 at e
  exact d_ret rfl e
def b77_58 (F : Nat) (l0 : Option Nat) (l1 : Option Nat) (l2 : Option Nat) : xm Unit := mb (nn l1) fun v1 => mb (gr 801 v1) fun v2 => mb (nn v2) fun v3 => mb (gr 403 v3) fun v4 => mb (gi 802 v1) fun v5 => mb (nn v4) fun v6 => mb (sb v6 v5 (1 : Int32)) fun _ => mb (gr 801 v1) fun v7 => mb (nn v7) fun v8 => mb (vc 4 v8) fun _ => mb (m82 F v8) fun v9 => if ¬ v9 = 0 then b77_82 F l0 (some v1) l2 else b77_81 F
theorem t77_58 {sc : Nat × (Nat → Int32)} {F : Nat} {r : Unit} {h' : xv_H} {l0 : Option Nat} {l1 : Option Nat} {l2 : Option Nat} {h : xv_H} (e : b77_58 F l0 l1 l2 h = some (r, h')) : xx sc 77 58 [some (va_rf l0), some (va_rf l1), some (va_rf l2)] [] h (fun v g => v = none ∧ g = h') := by
  unfold b77_58 at e
  refine xo_aload_nQ (w := l1) rfl rfl ?_
  refine d_nn e (fun v1 g e1 => ?_)
  subst g
  replace e := e1
  clear e1
  refine d_getr rfl e (fun v2 e => ?_)
  refine d_nn e (fun v3 g e1 => ?_)
  subst g
  replace e := e1
  clear e1
  refine d_getr rfl e (fun v4 e => ?_)
  refine xo_aload_nQ (w := (some v1)) rfl rfl ?_
  refine d_geti rfl e (fun v5 e => ?_)
  refine xo_iconstV (x := 1) rfl (by decide) ?_
  refine d_nn e (fun v6 g e1 => ?_)
  subst g
  replace e := e1
  clear e1
  refine d_bast rfl e (fun h e => ?_)
  refine xo_aload_nQ (w := (some v1)) rfl rfl ?_
  refine d_getr rfl e (fun v7 e => ?_)
  refine d_nn e (fun v8 g e1 => ?_)
  subst g
  replace e := e1
  clear e1
  refine d_virtual_i (av := []) (rest := []) rfl ⟨by decide, by decide⟩ rfl rfl (by simp [xv_fit, va_rf_cat, cat_int, cat_long, cat_ref, cat_null, show xt_mx 82 = 2 from rfl, show xt_lg 82 = [] from rfl]) (by simp [xv_room, va_rf_cat, cat_int, cat_long, cat_ref, cat_null]) (fun x0 h1 e1 => t82 e1) e (fun v9 h e => ?_)
  refine d_if_ne rfl rfl e (fun _ e => ?_) (fun _ e => ?_)
  · exact t77_82 e
  · exact t77_81 e
def b77_33 (F : Nat) (l0 : Option Nat) (l1 : Option Nat) (l2 : Option Nat) : xm Unit := mb (nn l2) fun v1 => mb (pr 111 v1 none) fun _ => mb (nn l1) fun v2 => mb (gr 801 v2) fun v3 => mb (gi 802 v2) fun v4 => mb (nn l0) fun v5 => mb (vc 0 v5) fun _ => mb (m78 F v5 (5 : Int32) v3 v4) fun _ => mb (vc 1 v1) fun _ => mb (m80 F v1) fun _ => b77_105 F (some v5) (some v1)
theorem t77_33 {sc : Nat × (Nat → Int32)} {F : Nat} {r : Unit} {h' : xv_H} {l0 : Option Nat} {l1 : Option Nat} {l2 : Option Nat} {h : xv_H} (e : b77_33 F l0 l1 l2 h = some (r, h')) : xx sc 77 33 [some (va_rf l0), some (va_rf l1), some (va_rf l2)] [] h (fun v g => v = none ∧ g = h') := by
  unfold b77_33 at e
  refine xo_aload_nQ (w := l2) rfl rfl ?_
  refine xo_nullV rfl ?_
  refine d_nn e (fun v1 g e1 => ?_)
  subst g
  replace e := e1
  clear e1
  refine d_putr (w := none) rfl e (fun h e => ?_)
  refine xo_aload_nQ (w := l0) rfl rfl ?_
  refine xo_iconstV (x := 5) rfl (by decide) ?_
  refine xo_aload_nQ (w := l1) rfl rfl ?_
  refine d_nn e (fun v2 g e1 => ?_)
  subst g
  replace e := e1
  clear e1
  refine d_getr rfl e (fun v3 e => ?_)
  refine xo_aload_nQ (w := (some v2)) rfl rfl ?_
  refine d_geti rfl e (fun v4 e => ?_)
  refine d_nn e (fun v5 g e1 => ?_)
  subst g
  replace e := e1
  clear e1
  refine d_virtual_v (av := [.int (5 : Int32), va_rf v3, .int v4]) (rest := []) rfl ⟨by decide, by decide⟩ rfl rfl (by simp [xv_fit, va_rf_cat, cat_int, cat_long, cat_ref, cat_null, show xt_mx 78 = 5 from rfl, show xt_lg 78 = [] from rfl]) (by simp [xv_room, va_rf_cat, cat_int, cat_long, cat_ref, cat_null]) (fun x0 h1 e1 => t78 e1) e (fun _ h e => ?_)
  refine xo_aload_nQ (w := (some v1)) rfl rfl ?_
  refine d_virtual_v (av := []) (rest := []) rfl ⟨by decide, by decide⟩ rfl rfl (by simp [xv_fit, va_rf_cat, cat_int, cat_long, cat_ref, cat_null, show xt_mx 80 = 1 from rfl, show xt_lg 80 = [] from rfl]) (by simp [xv_room, va_rf_cat, cat_int, cat_long, cat_ref, cat_null]) (fun x0 h1 e1 => t80 e1) e (fun _ h e => ?_)
  refine xo_goto rfl rfl ?_
  exact t77_105 e
def b77_25 (F : Nat) (l0 : Option Nat) (l1 : Option Nat) (l2 : Option Nat) : xm Unit := mb (nn l1) fun v1 => mb (gi 800 v1) fun v2 => if ¬ v2 = (3 : Int32) then b77_58 F l0 (some v1) l2 else b77_33 F l0 (some v1) l2
theorem t77_25 {sc : Nat × (Nat → Int32)} {F : Nat} {r : Unit} {h' : xv_H} {l0 : Option Nat} {l1 : Option Nat} {l2 : Option Nat} {h : xv_H} (e : b77_25 F l0 l1 l2 h = some (r, h')) : xx sc 77 25 [some (va_rf l0), some (va_rf l1), some (va_rf l2)] [] h (fun v g => v = none ∧ g = h') := by
  unfold b77_25 at e
  refine xo_aload_nQ (w := l1) rfl rfl ?_
  refine d_nn e (fun v1 g e1 => ?_)
  subst g
  replace e := e1
  clear e1
  refine d_geti rfl e (fun v2 e => ?_)
  refine xo_iconstV (x := 3) rfl (by decide) ?_
  refine d_icmp_ne rfl rfl e (fun _ e => ?_) (fun _ e => ?_)
  · exact t77_58 e
  · exact t77_33 e
def b77_24 (F : Nat) : xm Unit := mr ()
theorem t77_24 {sc : Nat × (Nat → Int32)} {F : Nat} {r : Unit} {h' : xv_H} {d0 d1 d2 : Option Value} {h : xv_H} (e : b77_24 F h = some (r, h')) : xx sc 77 24 [d0, d1, d2] [] h (fun v g => v = none ∧ g = h') := by
  unfold b77_24 at e
  exact d_ret rfl e
def b77_0 (F : Nat) (l0 : Option Nat) (l1 : Option Nat) : xm Unit := mb (nn l0) fun v1 => mb (gr 1 v1) fun v2 => mb (nn l1) fun v3 => mb (gr 801 v3) fun v4 => mb (nn v4) fun v5 => mb (gi 400 v5) fun v6 => mb (nn v2) fun v7 => mb (lr 105 v7 v6) fun v8 => mb (nn v8) fun v9 => mb (gr 111 v9) fun v10 => mb (gr 801 v3) fun v11 => mb (cq v10 v11) fun _ => if v10 = v11 then b77_25 F (some v1) (some v3) (some v9) else b77_24 F
theorem t77_0 {sc : Nat × (Nat → Int32)} {F : Nat} {r : Unit} {h' : xv_H} {l0 : Option Nat} {l1 : Option Nat} {d2 : Option Value} {h : xv_H} (e : b77_0 F l0 l1 h = some (r, h')) : xx sc 77 0 [some (va_rf l0), some (va_rf l1), d2] [] h (fun v g => v = none ∧ g = h') := by
  unfold b77_0 at e
  refine xo_aload_nQ (w := l0) rfl rfl ?_
  refine d_nn e (fun v1 g e1 => ?_)
  subst g
  replace e := e1
  clear e1
  refine d_getr rfl e (fun v2 e => ?_)
  refine xo_aload_nQ (w := l1) rfl rfl ?_
  refine d_nn e (fun v3 g e1 => ?_)
  subst g
  replace e := e1
  clear e1
  refine d_getr rfl e (fun v4 e => ?_)
  refine d_nn e (fun v5 g e1 => ?_)
  subst g
  replace e := e1
  clear e1
  refine d_geti rfl e (fun v6 e => ?_)
  refine d_nn e (fun v7 g e1 => ?_)
  subst g
  replace e := e1
  clear e1
  refine d_aald rfl e (fun v8 e => ?_)
  refine xo_astore_nQ (w := v8) rfl (Nat.le_of_ble_eq_true rfl) rfl ?_
  refine xo_aload_nQ (w := v8) rfl rfl ?_
  refine d_nn e (fun v9 g e1 => ?_)
  subst g
  replace e := e1
  clear e1
  refine d_getr rfl e (fun v10 e => ?_)
  refine xo_aload_nQ (w := (some v3)) rfl rfl ?_
  refine d_getr rfl e (fun v11 e => ?_)
  refine d_acmp_eq (w1 := v10) (w2 := v11) rfl rfl e (fun _ e => ?_) (fun _ e => ?_)
  · exact t77_25 e
  · exact t77_24 e
def m77 (F : Nat) (this : Nat) (p0 : Option Nat) : xm Unit := b77_0 F (some this) p0
theorem t77 {sc : Nat × (Nat → Int32)} {F : Nat} {this : Nat} {p0 : Option Nat} {h : xv_H} {r : Unit} {h' : xv_H} (e : m77 F this p0 h = some (r, h')) : xr sc 77 [.ref this, va_rf p0] h (fun v g => v = none ∧ g = h') := by
  have e0 : xv_ent (xt_mx 77) [.ref this, va_rf p0] = [some (va_rf (some this)), some (va_rf p0), none] := by simp [xv_ent, xv_sl, va_rf_cat, cat_int, cat_long, cat_ref, cat_null, va_rf_some, show xt_mx 77 = 3 from rfl]
  unfold xr
  rw [e0]
  exact t77_0 e
-- CellTree$MemoryNode.isHere(LCellTree$Item;)Z
def b89_19 (F : Nat) (s0 : Int32) : xm Int32 := mb (bz s0) fun _ => mr s0
theorem t89_19 {sc : Nat × (Nat → Int32)} {F : Nat} {r : Int32} {h' : xv_H} {s0 : Int32} {d0 d1 : Option Value} {h : xv_H} (e : b89_19 F s0 h = some (r, h')) : xx sc 89 19 [d0, d1] [.int s0] h (fun v g => v = some (.int r) ∧ g = h') := by
  unfold b89_19 at e
  exact d_zret rfl e
def b89_18 (F : Nat) : xm Int32 := b89_19 F (0 : Int32)
theorem t89_18 {sc : Nat × (Nat → Int32)} {F : Nat} {r : Int32} {h' : xv_H} {d0 d1 : Option Value} {h : xv_H} (e : b89_18 F h = some (r, h')) : xx sc 89 18 [d0, d1] [] h (fun v g => v = some (.int r) ∧ g = h') := by
  unfold b89_18 at e
  refine xo_iconstV (x := 0) rfl (by decide) ?_
  exact t89_19 e
def b89_14 (F : Nat) : xm Int32 := b89_19 F (1 : Int32)
theorem t89_14 {sc : Nat × (Nat → Int32)} {F : Nat} {r : Int32} {h' : xv_H} {d0 d1 : Option Value} {h : xv_H} (e : b89_14 F h = some (r, h')) : xx sc 89 14 [d0, d1] [] h (fun v g => v = some (.int r) ∧ g = h') := by
  unfold b89_14 at e
  refine xo_iconstV (x := 1) rfl (by decide) ?_
  refine xo_goto rfl rfl ?_
  exact t89_19 e
def b89_0 (F : Nat) (l0 : Option Nat) (l1 : Option Nat) : xm Int32 := mb (nn l1) fun v1 => mb (gi 501 v1) fun v2 => mb (dz (8 : Int32)) fun _ => mb (nn l0) fun v3 => mb (gi 300 v3) fun v4 => if ¬ (v2 / (8 : Int32)) = v4 then b89_18 F else b89_14 F
theorem t89_0 {sc : Nat × (Nat → Int32)} {F : Nat} {r : Int32} {h' : xv_H} {l0 : Option Nat} {l1 : Option Nat} {h : xv_H} (e : b89_0 F l0 l1 h = some (r, h')) : xx sc 89 0 [some (va_rf l0), some (va_rf l1)] [] h (fun v g => v = some (.int r) ∧ g = h') := by
  unfold b89_0 at e
  refine xo_aload_nQ (w := l1) rfl rfl ?_
  refine d_nn e (fun v1 g e1 => ?_)
  subst g
  replace e := e1
  clear e1
  refine d_geti rfl e (fun v2 e => ?_)
  refine xo_bipushV (x := 8) rfl (by decide) ?_
  refine d_idiv rfl e (fun e => ?_)
  refine xo_aload_nQ (w := l0) rfl rfl ?_
  refine d_nn e (fun v3 g e1 => ?_)
  subst g
  replace e := e1
  clear e1
  refine d_geti rfl e (fun v4 e => ?_)
  refine d_icmp_ne rfl rfl e (fun _ e => ?_) (fun _ e => ?_)
  · exact t89_18 e
  · exact t89_14 e
def m89 (F : Nat) (this : Nat) (p0 : Option Nat) : xm Int32 := b89_0 F (some this) p0
theorem t89 {sc : Nat × (Nat → Int32)} {F : Nat} {this : Nat} {p0 : Option Nat} {h : xv_H} {r : Int32} {h' : xv_H} (e : m89 F this p0 h = some (r, h')) : xr sc 89 [.ref this, va_rf p0] h (fun v g => v = some (.int r) ∧ g = h') := by
  have e0 : xv_ent (xt_mx 89) [.ref this, va_rf p0] = [some (va_rf (some this)), some (va_rf p0)] := by simp [xv_ent, xv_sl, va_rf_cat, cat_int, cat_long, cat_ref, cat_null, va_rf_some, show xt_mx 89 = 2 from rfl]
  unfold xr
  rw [e0]
  exact t89_0 e
-- CellTree$Item.changes()Z
def b90_25 (F : Nat) (s0 : Int32) : xm Int32 := mb (bz s0) fun _ => mr s0
theorem t90_25 {sc : Nat × (Nat → Int32)} {F : Nat} {r : Int32} {h' : xv_H} {s0 : Int32} {d0 : Option Value} {h : xv_H} (e : b90_25 F s0 h = some (r, h')) : xx sc 90 25 [d0] [.int s0] h (fun v g => v = some (.int r) ∧ g = h') := by
  unfold b90_25 at e
  exact d_zret rfl e
def b90_24 (F : Nat) : xm Int32 := b90_25 F (0 : Int32)
theorem t90_24 {sc : Nat × (Nat → Int32)} {F : Nat} {r : Int32} {h' : xv_H} {d0 : Option Value} {h : xv_H} (e : b90_24 F h = some (r, h')) : xx sc 90 24 [d0] [] h (fun v g => v = some (.int r) ∧ g = h') := by
  unfold b90_24 at e
  refine xo_iconstV (x := 0) rfl (by decide) ?_
  exact t90_25 e
def b90_20 (F : Nat) : xm Int32 := b90_25 F (1 : Int32)
theorem t90_20 {sc : Nat × (Nat → Int32)} {F : Nat} {r : Int32} {h' : xv_H} {d0 : Option Value} {h : xv_H} (e : b90_20 F h = some (r, h')) : xx sc 90 20 [d0] [] h (fun v g => v = some (.int r) ∧ g = h') := by
  unfold b90_20 at e
  refine xo_iconstV (x := 1) rfl (by decide) ?_
  refine xo_goto rfl rfl ?_
  exact t90_25 e
def b90_10 (F : Nat) (l0 : Option Nat) : xm Int32 := mb (nn l0) fun v1 => mb (gr 500 v1) fun v2 => mb (cq v2 (some (xv_SB + 10))) fun _ => if ¬ v2 = (some (xv_SB + 10)) then b90_24 F else b90_20 F
theorem t90_10 {sc : Nat × (Nat → Int32)} {F : Nat} {r : Int32} {h' : xv_H} {l0 : Option Nat} {h : xv_H} (e : b90_10 F l0 h = some (r, h')) : xx sc 90 10 [some (va_rf l0)] [] h (fun v g => v = some (.int r) ∧ g = h') := by
  unfold b90_10 at e
  refine xo_aload_nQ (w := l0) rfl rfl ?_
  refine d_nn e (fun v1 g e1 => ?_)
  subst g
  replace e := e1
  clear e1
  refine d_getr rfl e (fun v2 e => ?_)
  refine xo_getsV rfl ?_
  refine d_acmp_ne (w1 := v2) (w2 := (some (xv_SB + 10))) rfl rfl e (fun _ e => ?_) (fun _ e => ?_)
  · exact t90_24 e
  · exact t90_20 e
def b90_0 (F : Nat) (l0 : Option Nat) : xm Int32 := mb (nn l0) fun v1 => mb (gr 500 v1) fun v2 => mb (cq v2 (some (xv_SB + 9))) fun _ => if v2 = (some (xv_SB + 9)) then b90_20 F else b90_10 F (some v1)
theorem t90_0 {sc : Nat × (Nat → Int32)} {F : Nat} {r : Int32} {h' : xv_H} {l0 : Option Nat} {h : xv_H} (e : b90_0 F l0 h = some (r, h')) : xx sc 90 0 [some (va_rf l0)] [] h (fun v g => v = some (.int r) ∧ g = h') := by
  unfold b90_0 at e
  refine xo_aload_nQ (w := l0) rfl rfl ?_
  refine d_nn e (fun v1 g e1 => ?_)
  subst g
  replace e := e1
  clear e1
  refine d_getr rfl e (fun v2 e => ?_)
  refine xo_getsV rfl ?_
  refine d_acmp_eq (w1 := v2) (w2 := (some (xv_SB + 9))) rfl rfl e (fun _ e => ?_) (fun _ e => ?_)
  · exact t90_20 e
  · exact t90_10 e
def m90 (F : Nat) (this : Nat) : xm Int32 := b90_0 F (some this)
theorem t90 {sc : Nat × (Nat → Int32)} {F : Nat} {this : Nat} {h : xv_H} {r : Int32} {h' : xv_H} (e : m90 F this h = some (r, h')) : xr sc 90 [.ref this] h (fun v g => v = some (.int r) ∧ g = h') := by
  have e0 : xv_ent (xt_mx 90) [.ref this] = [some (va_rf (some this))] := by simp [xv_ent, xv_sl, va_rf_cat, cat_int, cat_long, cat_ref, cat_null, va_rf_some, show xt_mx 90 = 1 from rfl]
  unfold xr
  rw [e0]
  exact t90_0 e
-- CellTree$MemoryNode.carryOut(LCellTree$Transaction;)V
def b88_77 (F : Nat) (l0 : Option Nat) (l1 : Option Nat) : xm Unit := mb (nn l0) fun v1 => mb (gr 303 v1) fun v2 => mb (nn l1) fun v3 => mb (gi 405 v3) fun v4 => mb (nn v2) fun v5 => mb (sb v5 v4 (2 : Int32)) fun _ => mr ()
theorem t88_77 {sc : Nat × (Nat → Int32)} {F : Nat} {r : Unit} {h' : xv_H} {l0 : Option Nat} {l1 : Option Nat} {d2 d3 d4 : Option Value} {h : xv_H} (e : b88_77 F l0 l1 h = some (r, h')) : xx sc 88 77 [some (va_rf l0), some (va_rf l1), d2, d3, d4] [] h (fun v g => v = none ∧ g = h') := by
  unfold b88_77 at e
  refine xo_aload_nQ (w := l0) rfl rfl ?_
  refine d_nn e (fun v1 g e1 => ?_)
  subst g
  replace e := e1
  clear e1
  refine d_getr rfl e (fun v2 e => ?_)
  refine xo_aload_nQ (w := l1) rfl rfl ?_
  refine d_nn e (fun v3 g e1 => ?_)
  subst g
  replace e := e1
  clear e1
  refine d_geti rfl e (fun v4 e => ?_)
  refine xo_iconstV (x := 2) rfl (by decide) ?_
  refine d_nn e (fun v5 g e1 => ?_)
  subst g
  replace e := e1
  clear e1
  refine d_bast rfl e (fun h e => ?_)
  exact d_ret rfl e
def b88_71 (k2 : Option Nat → Option Nat → Int32 → xm Unit) (F : Nat) (l0 : Option Nat) (l1 : Option Nat) (l2 : Int32) : xm Unit := k2 l0 l1 (l2 + (1 : Int32))
theorem t88_71 {sc : Nat × (Nat → Int32)} {F : Nat} {r : Unit} {h' : xv_H} {k2 : Option Nat → Option Nat → Int32 → xm Unit} (hk2 : ∀ (l0 : Option Nat) (l1 : Option Nat) (l2 : Int32) (d3 d4 : Option Value) (h : xv_H), k2 l0 l1 l2 h = some (r, h') → xx sc 88 2 [some (va_rf l0), some (va_rf l1), some (.int l2), d3, d4] [] h (fun v g => v = none ∧ g = h')) {l0 : Option Nat} {l1 : Option Nat} {l2 : Int32} {d3 d4 : Option Value} {h : xv_H} (e : b88_71 k2 F l0 l1 l2 h = some (r, h')) : xx sc 88 71 [some (va_rf l0), some (va_rf l1), some (.int l2), d3, d4] [] h (fun v g => v = none ∧ g = h') := by
  unfold b88_71 at e
  refine xo_iincV (z := 1) rfl (by decide) rfl (Nat.le_of_ble_eq_true rfl) rfl ?_
  refine xo_goto rfl rfl ?_
  exact hk2 _ _ _ _ _ _ e
def b88_41 (k2 : Option Nat → Option Nat → Int32 → xm Unit) (F : Nat) (l0 : Option Nat) (l1 : Option Nat) (l2 : Int32) (l3 : Option Nat) (l4 : Int32) : xm Unit := mb (nn l0) fun v1 => mb (gr 301 v1) fun v2 => mb (nw 7 2) fun v3 => mb (gr 301 v1) fun v4 => mb (nn v4) fun v5 => mb (lr 108 v5 l4) fun v6 => mb (nn v6) fun v7 => mb (gi 700 v7) fun v8 => mb (nn l3) fun v9 => mb (gr 503 v9) fun v10 => mb (m2 F v3 (v8 + (1 : Int32)) v10) fun _ => mb (nn v2) fun v11 => mb (sr 108 v11 l4 (some v3)) fun _ => b88_71 k2 F (some v1) l1 l2
theorem t88_41 {sc : Nat × (Nat → Int32)} {F : Nat} {r : Unit} {h' : xv_H} {k2 : Option Nat → Option Nat → Int32 → xm Unit} (hk2 : ∀ (l0 : Option Nat) (l1 : Option Nat) (l2 : Int32) (d3 d4 : Option Value) (h : xv_H), k2 l0 l1 l2 h = some (r, h') → xx sc 88 2 [some (va_rf l0), some (va_rf l1), some (.int l2), d3, d4] [] h (fun v g => v = none ∧ g = h')) {l0 : Option Nat} {l1 : Option Nat} {l2 : Int32} {l3 : Option Nat} {l4 : Int32} {h : xv_H} (e : b88_41 k2 F l0 l1 l2 l3 l4 h = some (r, h')) : xx sc 88 41 [some (va_rf l0), some (va_rf l1), some (.int l2), some (va_rf l3), some (.int l4)] [] h (fun v g => v = none ∧ g = h') := by
  unfold b88_41 at e
  refine xo_aload_nQ (w := l0) rfl rfl ?_
  refine d_nn e (fun v1 g e1 => ?_)
  subst g
  replace e := e1
  clear e1
  refine d_getr rfl e (fun v2 e => ?_)
  refine xo_iload rfl rfl ?_
  refine d_new rfl e (fun v3 h e => ?_)
  refine xo_dup rfl (by first | rfl | exact va_rf_cat _) ?_
  refine xo_aload_nQ (w := (some v1)) rfl rfl ?_
  refine d_getr rfl e (fun v4 e => ?_)
  refine xo_iload rfl rfl ?_
  refine d_nn e (fun v5 g e1 => ?_)
  subst g
  replace e := e1
  clear e1
  refine d_aald rfl e (fun v6 e => ?_)
  refine d_nn e (fun v7 g e1 => ?_)
  subst g
  replace e := e1
  clear e1
  refine d_geti rfl e (fun v8 e => ?_)
  refine xo_iconstV (x := 1) rfl (by decide) ?_
  refine xo_iadd rfl ?_
  refine xo_aload_nQ (w := l3) rfl rfl ?_
  refine d_nn e (fun v9 g e1 => ?_)
  subst g
  replace e := e1
  clear e1
  refine d_getr rfl e (fun v10 e => ?_)
  refine d_special_v (av := [.int (v8 + (1 : Int32)), va_rf v10]) (rest := [va_rf (some v3), .int l4, va_rf v2]) rfl (by decide) rfl rfl (by simp [xv_fit, va_rf_cat, cat_int, cat_long, cat_ref, cat_null, show xt_mx 2 = 3 from rfl, show xt_lg 2 = [] from rfl]) (by simp [xv_room, va_rf_cat, cat_int, cat_long, cat_ref, cat_null]) (fun x0 h1 e1 => t2 e1) e (fun _ h e => ?_)
  refine d_nn e (fun v11 g e1 => ?_)
  subst g
  replace e := e1
  clear e1
  refine d_aast (w := (some v3)) rfl e (fun h e => ?_)
  exact t88_71 hk2 e
def b88_34 (k2 : Option Nat → Option Nat → Int32 → xm Unit) (F : Nat) (l0 : Option Nat) (l1 : Option Nat) (l2 : Int32) (l3 : Option Nat) (l4 : Int32) : xm Unit := mb (nn l3) fun v1 => mb (vc 5 v1) fun _ => mb (m90 F v1) fun v2 => if v2 = 0 then b88_71 k2 F l0 l1 l2 else b88_41 k2 F l0 l1 l2 (some v1) l4
theorem t88_34 {sc : Nat × (Nat → Int32)} {F : Nat} {r : Unit} {h' : xv_H} {k2 : Option Nat → Option Nat → Int32 → xm Unit} (hk2 : ∀ (l0 : Option Nat) (l1 : Option Nat) (l2 : Int32) (d3 d4 : Option Value) (h : xv_H), k2 l0 l1 l2 h = some (r, h') → xx sc 88 2 [some (va_rf l0), some (va_rf l1), some (.int l2), d3, d4] [] h (fun v g => v = none ∧ g = h')) {l0 : Option Nat} {l1 : Option Nat} {l2 : Int32} {l3 : Option Nat} {l4 : Int32} {h : xv_H} (e : b88_34 k2 F l0 l1 l2 l3 l4 h = some (r, h')) : xx sc 88 34 [some (va_rf l0), some (va_rf l1), some (.int l2), some (va_rf l3), some (.int l4)] [] h (fun v g => v = none ∧ g = h') := by
  unfold b88_34 at e
  refine xo_aload_nQ (w := l3) rfl rfl ?_
  refine d_nn e (fun v1 g e1 => ?_)
  subst g
  replace e := e1
  clear e1
  refine d_virtual_i (av := []) (rest := []) rfl ⟨by decide, by decide⟩ rfl rfl (by simp [xv_fit, va_rf_cat, cat_int, cat_long, cat_ref, cat_null, show xt_mx 90 = 1 from rfl, show xt_lg 90 = [] from rfl]) (by simp [xv_room, va_rf_cat, cat_int, cat_long, cat_ref, cat_null]) (fun x0 h1 e1 => t90 e1) e (fun v2 h e => ?_)
  refine d_if_eq rfl rfl e (fun _ e => ?_) (fun _ e => ?_)
  · exact t88_71 hk2 e
  · exact t88_41 hk2 e
def b88_10 (k2 : Option Nat → Option Nat → Int32 → xm Unit) (F : Nat) (l0 : Option Nat) (l1 : Option Nat) (l2 : Int32) : xm Unit := mb (nn l1) fun v1 => mb (gr 401 v1) fun v2 => mb (nn v2) fun v3 => mb (lr 107 v3 l2) fun v4 => mb (nn v4) fun v5 => mb (gi 501 v5) fun v6 => mb (dz (8 : Int32)) fun _ => mb (nn l0) fun v7 => mb (vc 3 v7) fun _ => mb (m89 F v7 (some v5)) fun v8 => if v8 = 0 then b88_71 k2 F (some v7) (some v1) l2 else b88_34 k2 F (some v7) (some v1) l2 (some v5) (v6 - v6 / (8 : Int32) * (8 : Int32))
theorem t88_10 {sc : Nat × (Nat → Int32)} {F : Nat} {r : Unit} {h' : xv_H} {k2 : Option Nat → Option Nat → Int32 → xm Unit} (hk2 : ∀ (l0 : Option Nat) (l1 : Option Nat) (l2 : Int32) (d3 d4 : Option Value) (h : xv_H), k2 l0 l1 l2 h = some (r, h') → xx sc 88 2 [some (va_rf l0), some (va_rf l1), some (.int l2), d3, d4] [] h (fun v g => v = none ∧ g = h')) {l0 : Option Nat} {l1 : Option Nat} {l2 : Int32} {d3 d4 : Option Value} {h : xv_H} (e : b88_10 k2 F l0 l1 l2 h = some (r, h')) : xx sc 88 10 [some (va_rf l0), some (va_rf l1), some (.int l2), d3, d4] [] h (fun v g => v = none ∧ g = h') := by
  unfold b88_10 at e
  refine xo_aload_nQ (w := l1) rfl rfl ?_
  refine d_nn e (fun v1 g e1 => ?_)
  subst g
  replace e := e1
  clear e1
  refine d_getr rfl e (fun v2 e => ?_)
  refine xo_iload_n rfl rfl ?_
  refine d_nn e (fun v3 g e1 => ?_)
  subst g
  replace e := e1
  clear e1
  refine d_aald rfl e (fun v4 e => ?_)
  refine xo_astore_nQ (w := v4) rfl (Nat.le_of_ble_eq_true rfl) rfl ?_
  refine xo_aload_nQ (w := v4) rfl rfl ?_
  refine d_nn e (fun v5 g e1 => ?_)
  subst g
  replace e := e1
  clear e1
  refine d_geti rfl e (fun v6 e => ?_)
  refine xo_bipushV (x := 8) rfl (by decide) ?_
  refine d_irem rfl e (fun e => ?_)
  refine xo_istore rfl (Nat.le_of_ble_eq_true rfl) rfl ?_
  refine xo_aload_nQ (w := l0) rfl rfl ?_
  refine xo_aload_nQ (w := (some v5)) rfl rfl ?_
  refine d_nn e (fun v7 g e1 => ?_)
  subst g
  replace e := e1
  clear e1
  refine d_virtual_i (av := [va_rf (some v5)]) (rest := []) rfl ⟨by decide, by decide⟩ rfl rfl (by simp [xv_fit, va_rf_cat, cat_int, cat_long, cat_ref, cat_null, show xt_mx 89 = 2 from rfl, show xt_lg 89 = [] from rfl]) (by simp [xv_room, va_rf_cat, cat_int, cat_long, cat_ref, cat_null]) (fun x0 h1 e1 => t89 e1) e (fun v8 h e => ?_)
  refine d_if_eq rfl rfl e (fun _ e => ?_) (fun _ e => ?_)
  · exact t88_71 hk2 e
  · exact t88_34 hk2 e
def b88_2 (F : Nat) : Nat → Option Nat → Option Nat → Int32 → xm Unit
  | 0, _, _, _ => fun _ => none
  | f + 1, l0, l1, l2 => mb (nn l1) fun v1 => mb (gi 404 v1) fun v2 => if v2 ≤ l2 then b88_77 F l0 (some v1) else b88_10 (b88_2 F f) F l0 (some v1) l2
theorem t88_2 {sc : Nat × (Nat → Int32)} {F : Nat} {r : Unit} {h' : xv_H} : ∀ (f : Nat) (l0 : Option Nat) (l1 : Option Nat) (l2 : Int32) (d3 d4 : Option Value) (h : xv_H), b88_2 F f l0 l1 l2 h = some (r, h') → xx sc 88 2 [some (va_rf l0), some (va_rf l1), some (.int l2), d3, d4] [] h (fun v g => v = none ∧ g = h') := by
  intro f
  induction f with
  | zero => intro l0 l1 l2 d3 d4 h e; cases e
  | succ f ih =>
    intro l0 l1 l2 d3 d4 h e
    unfold b88_2 at e
    refine xo_iload_n rfl rfl ?_
    refine xo_aload_nQ (w := l1) rfl rfl ?_
    refine d_nn e (fun v1 g e1 => ?_)
    subst g
    replace e := e1
    clear e1
    refine d_geti rfl e (fun v2 e => ?_)
    refine d_icmp_ge rfl rfl e (fun _ e => ?_) (fun _ e => ?_)
    · exact t88_77 e
    · exact t88_10 (fun a0 a1 a2 a3 a4 h e => ih a0 a1 a2 a3 a4 h e) e
def b88_0 (F : Nat) (l0 : Option Nat) (l1 : Option Nat) : xm Unit := b88_2 F F l0 l1 (0 : Int32)
theorem t88_0 {sc : Nat × (Nat → Int32)} {F : Nat} {r : Unit} {h' : xv_H} {l0 : Option Nat} {l1 : Option Nat} {d2 d3 d4 : Option Value} {h : xv_H} (e : b88_0 F l0 l1 h = some (r, h')) : xx sc 88 0 [some (va_rf l0), some (va_rf l1), d2, d3, d4] [] h (fun v g => v = none ∧ g = h') := by
  unfold b88_0 at e
  refine xo_iconstV (x := 0) rfl (by decide) ?_
  refine xo_istore_n rfl (Nat.le_of_ble_eq_true rfl) rfl ?_
  exact t88_2 F _ _ _ _ _ _ e
def m88 (F : Nat) (this : Nat) (p0 : Option Nat) : xm Unit := b88_0 F (some this) p0
theorem t88 {sc : Nat × (Nat → Int32)} {F : Nat} {this : Nat} {p0 : Option Nat} {h : xv_H} {r : Unit} {h' : xv_H} (e : m88 F this p0 h = some (r, h')) : xr sc 88 [.ref this, va_rf p0] h (fun v g => v = none ∧ g = h') := by
  have e0 : xv_ent (xt_mx 88) [.ref this, va_rf p0] = [some (va_rf (some this)), some (va_rf p0), none, none, none] := by simp [xv_ent, xv_sl, va_rf_cat, cat_int, cat_long, cat_ref, cat_null, va_rf_some, show xt_mx 88 = 5 from rfl]
  unfold xr
  rw [e0]
  exact t88_0 e
-- CellTree$MemoryNode.setLocks(LCellTree$Transaction;I)V
def b91_47 (F : Nat) : xm Unit := mr ()
theorem t91_47 {sc : Nat × (Nat → Int32)} {F : Nat} {r : Unit} {h' : xv_H} {d0 d1 d2 d3 : Option Value} {h : xv_H} (e : b91_47 F h = some (r, h')) : xx sc 91 47 [d0, d1, d2, d3] [] h (fun v g => v = none ∧ g = h') := by
  unfold b91_47 at e
  exact d_ret rfl e
def b91_41 (k2 : Option Nat → Option Nat → Int32 → Int32 → xm Unit) (F : Nat) (l0 : Option Nat) (l1 : Option Nat) (l2 : Int32) (l3 : Int32) : xm Unit := k2 l0 l1 l2 (l3 + (1 : Int32))
theorem t91_41 {sc : Nat × (Nat → Int32)} {F : Nat} {r : Unit} {h' : xv_H} {k2 : Option Nat → Option Nat → Int32 → Int32 → xm Unit} (hk2 : ∀ (l0 : Option Nat) (l1 : Option Nat) (l2 : Int32) (l3 : Int32) (h : xv_H), k2 l0 l1 l2 l3 h = some (r, h') → xx sc 91 2 [some (va_rf l0), some (va_rf l1), some (.int l2), some (.int l3)] [] h (fun v g => v = none ∧ g = h')) {l0 : Option Nat} {l1 : Option Nat} {l2 : Int32} {l3 : Int32} {h : xv_H} (e : b91_41 k2 F l0 l1 l2 l3 h = some (r, h')) : xx sc 91 41 [some (va_rf l0), some (va_rf l1), some (.int l2), some (.int l3)] [] h (fun v g => v = none ∧ g = h') := by
  unfold b91_41 at e
  refine xo_iincV (z := 1) rfl (by decide) rfl (Nat.le_of_ble_eq_true rfl) rfl ?_
  refine xo_goto rfl rfl ?_
  exact hk2 _ _ _ _ _ e
def b91_23 (k2 : Option Nat → Option Nat → Int32 → Int32 → xm Unit) (F : Nat) (l0 : Option Nat) (l1 : Option Nat) (l2 : Int32) (l3 : Int32) : xm Unit := mb (nn l0) fun v1 => mb (gr 302 v1) fun v2 => mb (nn l1) fun v3 => mb (gr 401 v3) fun v4 => mb (nn v4) fun v5 => mb (lr 107 v5 l3) fun v6 => mb (nn v6) fun v7 => mb (gi 501 v7) fun v8 => mb (dz (8 : Int32)) fun _ => mb (nn v2) fun v9 => mb (si v9 (v8 - v8 / (8 : Int32) * (8 : Int32)) l2) fun _ => b91_41 k2 F (some v1) (some v3) l2 l3
theorem t91_23 {sc : Nat × (Nat → Int32)} {F : Nat} {r : Unit} {h' : xv_H} {k2 : Option Nat → Option Nat → Int32 → Int32 → xm Unit} (hk2 : ∀ (l0 : Option Nat) (l1 : Option Nat) (l2 : Int32) (l3 : Int32) (h : xv_H), k2 l0 l1 l2 l3 h = some (r, h') → xx sc 91 2 [some (va_rf l0), some (va_rf l1), some (.int l2), some (.int l3)] [] h (fun v g => v = none ∧ g = h')) {l0 : Option Nat} {l1 : Option Nat} {l2 : Int32} {l3 : Int32} {h : xv_H} (e : b91_23 k2 F l0 l1 l2 l3 h = some (r, h')) : xx sc 91 23 [some (va_rf l0), some (va_rf l1), some (.int l2), some (.int l3)] [] h (fun v g => v = none ∧ g = h') := by
  unfold b91_23 at e
  refine xo_aload_nQ (w := l0) rfl rfl ?_
  refine d_nn e (fun v1 g e1 => ?_)
  subst g
  replace e := e1
  clear e1
  refine d_getr rfl e (fun v2 e => ?_)
  refine xo_aload_nQ (w := l1) rfl rfl ?_
  refine d_nn e (fun v3 g e1 => ?_)
  subst g
  replace e := e1
  clear e1
  refine d_getr rfl e (fun v4 e => ?_)
  refine xo_iload_n rfl rfl ?_
  refine d_nn e (fun v5 g e1 => ?_)
  subst g
  replace e := e1
  clear e1
  refine d_aald rfl e (fun v6 e => ?_)
  refine d_nn e (fun v7 g e1 => ?_)
  subst g
  replace e := e1
  clear e1
  refine d_geti rfl e (fun v8 e => ?_)
  refine xo_bipushV (x := 8) rfl (by decide) ?_
  refine d_irem rfl e (fun e => ?_)
  refine xo_iload_n rfl rfl ?_
  refine d_nn e (fun v9 g e1 => ?_)
  subst g
  replace e := e1
  clear e1
  refine d_iast rfl e (fun h e => ?_)
  exact t91_41 hk2 e
def b91_10 (k2 : Option Nat → Option Nat → Int32 → Int32 → xm Unit) (F : Nat) (l0 : Option Nat) (l1 : Option Nat) (l2 : Int32) (l3 : Int32) : xm Unit := mb (nn l1) fun v1 => mb (gr 401 v1) fun v2 => mb (nn v2) fun v3 => mb (lr 107 v3 l3) fun v4 => mb (nn l0) fun v5 => mb (vc 3 v5) fun _ => mb (m89 F v5 v4) fun v6 => if v6 = 0 then b91_41 k2 F (some v5) (some v1) l2 l3 else b91_23 k2 F (some v5) (some v1) l2 l3
theorem t91_10 {sc : Nat × (Nat → Int32)} {F : Nat} {r : Unit} {h' : xv_H} {k2 : Option Nat → Option Nat → Int32 → Int32 → xm Unit} (hk2 : ∀ (l0 : Option Nat) (l1 : Option Nat) (l2 : Int32) (l3 : Int32) (h : xv_H), k2 l0 l1 l2 l3 h = some (r, h') → xx sc 91 2 [some (va_rf l0), some (va_rf l1), some (.int l2), some (.int l3)] [] h (fun v g => v = none ∧ g = h')) {l0 : Option Nat} {l1 : Option Nat} {l2 : Int32} {l3 : Int32} {h : xv_H} (e : b91_10 k2 F l0 l1 l2 l3 h = some (r, h')) : xx sc 91 10 [some (va_rf l0), some (va_rf l1), some (.int l2), some (.int l3)] [] h (fun v g => v = none ∧ g = h') := by
  unfold b91_10 at e
  refine xo_aload_nQ (w := l0) rfl rfl ?_
  refine xo_aload_nQ (w := l1) rfl rfl ?_
  refine d_nn e (fun v1 g e1 => ?_)
  subst g
  replace e := e1
  clear e1
  refine d_getr rfl e (fun v2 e => ?_)
  refine xo_iload_n rfl rfl ?_
  refine d_nn e (fun v3 g e1 => ?_)
  subst g
  replace e := e1
  clear e1
  refine d_aald rfl e (fun v4 e => ?_)
  refine d_nn e (fun v5 g e1 => ?_)
  subst g
  replace e := e1
  clear e1
  refine d_virtual_i (av := [va_rf v4]) (rest := []) rfl ⟨by decide, by decide⟩ rfl rfl (by simp [xv_fit, va_rf_cat, cat_int, cat_long, cat_ref, cat_null, show xt_mx 89 = 2 from rfl, show xt_lg 89 = [] from rfl]) (by simp [xv_room, va_rf_cat, cat_int, cat_long, cat_ref, cat_null]) (fun x0 h1 e1 => t89 e1) e (fun v6 h e => ?_)
  refine d_if_eq rfl rfl e (fun _ e => ?_) (fun _ e => ?_)
  · exact t91_41 hk2 e
  · exact t91_23 hk2 e
def b91_2 (F : Nat) : Nat → Option Nat → Option Nat → Int32 → Int32 → xm Unit
  | 0, _, _, _, _ => fun _ => none
  | f + 1, l0, l1, l2, l3 => mb (nn l1) fun v1 => mb (gi 404 v1) fun v2 => if v2 ≤ l3 then b91_47 F else b91_10 (b91_2 F f) F l0 (some v1) l2 l3
theorem t91_2 {sc : Nat × (Nat → Int32)} {F : Nat} {r : Unit} {h' : xv_H} : ∀ (f : Nat) (l0 : Option Nat) (l1 : Option Nat) (l2 : Int32) (l3 : Int32) (h : xv_H), b91_2 F f l0 l1 l2 l3 h = some (r, h') → xx sc 91 2 [some (va_rf l0), some (va_rf l1), some (.int l2), some (.int l3)] [] h (fun v g => v = none ∧ g = h') := by
  intro f
  induction f with
  | zero => intro l0 l1 l2 l3 h e; cases e
  | succ f ih =>
    intro l0 l1 l2 l3 h e
    unfold b91_2 at e
    refine xo_iload_n rfl rfl ?_
    refine xo_aload_nQ (w := l1) rfl rfl ?_
    refine d_nn e (fun v1 g e1 => ?_)
    subst g
    replace e := e1
    clear e1
    refine d_geti rfl e (fun v2 e => ?_)
    refine d_icmp_ge rfl rfl e (fun _ e => ?_) (fun _ e => ?_)
    · exact t91_47 e
    · exact t91_10 (fun a0 a1 a2 a3 h e => ih a0 a1 a2 a3 h e) e
def b91_0 (F : Nat) (l0 : Option Nat) (l1 : Option Nat) (l2 : Int32) : xm Unit := b91_2 F F l0 l1 l2 (0 : Int32)
theorem t91_0 {sc : Nat × (Nat → Int32)} {F : Nat} {r : Unit} {h' : xv_H} {l0 : Option Nat} {l1 : Option Nat} {l2 : Int32} {d3 : Option Value} {h : xv_H} (e : b91_0 F l0 l1 l2 h = some (r, h')) : xx sc 91 0 [some (va_rf l0), some (va_rf l1), some (.int l2), d3] [] h (fun v g => v = none ∧ g = h') := by
  unfold b91_0 at e
  refine xo_iconstV (x := 0) rfl (by decide) ?_
  refine xo_istore_n rfl (Nat.le_of_ble_eq_true rfl) rfl ?_
  exact t91_2 F _ _ _ _ _ e
def m91 (F : Nat) (this : Nat) (p0 : Option Nat) (p1 : Int32) : xm Unit := b91_0 F (some this) p0 p1
theorem t91 {sc : Nat × (Nat → Int32)} {F : Nat} {this : Nat} {p0 : Option Nat} {p1 : Int32} {h : xv_H} {r : Unit} {h' : xv_H} (e : m91 F this p0 p1 h = some (r, h')) : xr sc 91 [.ref this, va_rf p0, .int p1] h (fun v g => v = none ∧ g = h') := by
  have e0 : xv_ent (xt_mx 91) [.ref this, va_rf p0, .int p1] = [some (va_rf (some this)), some (va_rf p0), some (.int p1), none] := by simp [xv_ent, xv_sl, va_rf_cat, cat_int, cat_long, cat_ref, cat_null, va_rf_some, show xt_mx 91 = 4 from rfl]
  unfold xr
  rw [e0]
  exact t91_0 e
-- CellTree$MemoryNode.commit(LCellTree$Transaction;)V
def b87_24 (F : Nat) : xm Unit := mr ()
theorem t87_24 {sc : Nat × (Nat → Int32)} {F : Nat} {r : Unit} {h' : xv_H} {d0 d1 : Option Value} {h : xv_H} (e : b87_24 F h = some (r, h')) : xx sc 87 24 [d0, d1] [] h (fun v g => v = none ∧ g = h') := by
  unfold b87_24 at e
  exact d_ret rfl e
def b87_13 (F : Nat) (l0 : Option Nat) (l1 : Option Nat) : xm Unit := mb (nn l0) fun v1 => mb (vc 3 v1) fun _ => mb (m88 F v1 l1) fun _ => mb (vc 3 v1) fun _ => mb (m91 F v1 l1 (0 : Int32)) fun _ => b87_24 F
theorem t87_13 {sc : Nat × (Nat → Int32)} {F : Nat} {r : Unit} {h' : xv_H} {l0 : Option Nat} {l1 : Option Nat} {h : xv_H} (e : b87_13 F l0 l1 h = some (r, h')) : xx sc 87 13 [some (va_rf l0), some (va_rf l1)] [] h (fun v g => v = none ∧ g = h') := by
  unfold b87_13 at e
  refine xo_aload_nQ (w := l0) rfl rfl ?_
  refine xo_aload_nQ (w := l1) rfl rfl ?_
  refine d_nn e (fun v1 g e1 => ?_)
  subst g
  replace e := e1
  clear e1
  refine d_virtual_v (av := [va_rf l1]) (rest := []) rfl ⟨by decide, by decide⟩ rfl rfl (by simp [xv_fit, va_rf_cat, cat_int, cat_long, cat_ref, cat_null, show xt_mx 88 = 5 from rfl, show xt_lg 88 = [] from rfl]) (by simp [xv_room, va_rf_cat, cat_int, cat_long, cat_ref, cat_null]) (fun x0 h1 e1 => t88 e1) e (fun _ h e => ?_)
  refine xo_aload_nQ (w := (some v1)) rfl rfl ?_
  refine xo_aload_nQ (w := l1) rfl rfl ?_
  refine xo_iconstV (x := 0) rfl (by decide) ?_
  refine d_virtual_v (av := [va_rf l1, .int (0 : Int32)]) (rest := []) rfl ⟨by decide, by decide⟩ rfl rfl (by simp [xv_fit, va_rf_cat, cat_int, cat_long, cat_ref, cat_null, show xt_mx 91 = 4 from rfl, show xt_lg 91 = [] from rfl]) (by simp [xv_room, va_rf_cat, cat_int, cat_long, cat_ref, cat_null]) (fun x0 h1 e1 => t91 e1) e (fun _ h e => ?_)
  exact t87_24 e
def b87_0 (F : Nat) (l0 : Option Nat) (l1 : Option Nat) : xm Unit := mb (nn l0) fun v1 => mb (gr 303 v1) fun v2 => mb (nn l1) fun v3 => mb (gi 405 v3) fun v4 => mb (nn v2) fun v5 => mb (lb v5 v4) fun v6 => if ¬ v6 = (1 : Int32) then b87_24 F else b87_13 F (some v1) (some v3)
theorem t87_0 {sc : Nat × (Nat → Int32)} {F : Nat} {r : Unit} {h' : xv_H} {l0 : Option Nat} {l1 : Option Nat} {h : xv_H} (e : b87_0 F l0 l1 h = some (r, h')) : xx sc 87 0 [some (va_rf l0), some (va_rf l1)] [] h (fun v g => v = none ∧ g = h') := by
  unfold b87_0 at e
  refine xo_aload_nQ (w := l0) rfl rfl ?_
  refine d_nn e (fun v1 g e1 => ?_)
  subst g
  replace e := e1
  clear e1
  refine d_getr rfl e (fun v2 e => ?_)
  refine xo_aload_nQ (w := l1) rfl rfl ?_
  refine d_nn e (fun v3 g e1 => ?_)
  subst g
  replace e := e1
  clear e1
  refine d_geti rfl e (fun v4 e => ?_)
  refine d_nn e (fun v5 g e1 => ?_)
  subst g
  replace e := e1
  clear e1
  refine d_bald rfl e (fun v6 e => ?_)
  refine xo_iconstV (x := 1) rfl (by decide) ?_
  refine d_icmp_ne rfl rfl e (fun _ e => ?_) (fun _ e => ?_)
  · exact t87_24 e
  · exact t87_13 e
def m87 (F : Nat) (this : Nat) (p0 : Option Nat) : xm Unit := b87_0 F (some this) p0
theorem t87 {sc : Nat × (Nat → Int32)} {F : Nat} {this : Nat} {p0 : Option Nat} {h : xv_H} {r : Unit} {h' : xv_H} (e : m87 F this p0 h = some (r, h')) : xr sc 87 [.ref this, va_rf p0] h (fun v g => v = none ∧ g = h') := by
  have e0 : xv_ent (xt_mx 87) [.ref this, va_rf p0] = [some (va_rf (some this)), some (va_rf p0)] := by simp [xv_ent, xv_sl, va_rf_cat, cat_int, cat_long, cat_ref, cat_null, va_rf_some, show xt_mx 87 = 2 from rfl]
  unfold xr
  rw [e0]
  exact t87_0 e
-- CellTree$MemoryNode.abort(LCellTree$Transaction;)V
def b92_40 (F : Nat) : xm Unit := mr ()
theorem t92_40 {sc : Nat × (Nat → Int32)} {F : Nat} {r : Unit} {h' : xv_H} {d0 d1 d2 : Option Value} {h : xv_H} (e : b92_40 F h = some (r, h')) : xx sc 92 40 [d0, d1, d2] [] h (fun v g => v = none ∧ g = h') := by
  unfold b92_40 at e
  exact d_ret rfl e
def b92_30 (F : Nat) (l0 : Option Nat) (l1 : Option Nat) : xm Unit := mb (nn l0) fun v1 => mb (gr 303 v1) fun v2 => mb (nn l1) fun v3 => mb (gi 405 v3) fun v4 => mb (nn v2) fun v5 => mb (sb v5 v4 (3 : Int32)) fun _ => b92_40 F
theorem t92_30 {sc : Nat × (Nat → Int32)} {F : Nat} {r : Unit} {h' : xv_H} {l0 : Option Nat} {l1 : Option Nat} {d2 : Option Value} {h : xv_H} (e : b92_30 F l0 l1 h = some (r, h')) : xx sc 92 30 [some (va_rf l0), some (va_rf l1), d2] [] h (fun v g => v = none ∧ g = h') := by
  unfold b92_30 at e
  refine xo_aload_nQ (w := l0) rfl rfl ?_
  refine d_nn e (fun v1 g e1 => ?_)
  subst g
  replace e := e1
  clear e1
  refine d_getr rfl e (fun v2 e => ?_)
  refine xo_aload_nQ (w := l1) rfl rfl ?_
  refine d_nn e (fun v3 g e1 => ?_)
  subst g
  replace e := e1
  clear e1
  refine d_geti rfl e (fun v4 e => ?_)
  refine xo_iconstV (x := 3) rfl (by decide) ?_
  refine d_nn e (fun v5 g e1 => ?_)
  subst g
  replace e := e1
  clear e1
  refine d_bast rfl e (fun h e => ?_)
  exact t92_40 e
def b92_26 (F : Nat) (l0 : Option Nat) (l1 : Option Nat) (l2 : Int32) : xm Unit := if ¬ l2 = 0 then b92_40 F else b92_30 F l0 l1
theorem t92_26 {sc : Nat × (Nat → Int32)} {F : Nat} {r : Unit} {h' : xv_H} {l0 : Option Nat} {l1 : Option Nat} {l2 : Int32} {h : xv_H} (e : b92_26 F l0 l1 l2 h = some (r, h')) : xx sc 92 26 [some (va_rf l0), some (va_rf l1), some (.int l2)] [] h (fun v g => v = none ∧ g = h') := by
  unfold b92_26 at e
  refine xo_iload_n rfl rfl ?_
  refine d_if_ne rfl rfl e (fun _ e => ?_) (fun _ e => ?_)
  · exact t92_40 e
  · exact t92_30 e
def b92_21 (F : Nat) (l0 : Option Nat) (l1 : Option Nat) (l2 : Int32) : xm Unit := if l2 = (1 : Int32) then b92_30 F l0 l1 else b92_26 F l0 l1 l2
theorem t92_21 {sc : Nat × (Nat → Int32)} {F : Nat} {r : Unit} {h' : xv_H} {l0 : Option Nat} {l1 : Option Nat} {l2 : Int32} {h : xv_H} (e : b92_21 F l0 l1 l2 h = some (r, h')) : xx sc 92 21 [some (va_rf l0), some (va_rf l1), some (.int l2)] [] h (fun v g => v = none ∧ g = h') := by
  unfold b92_21 at e
  refine xo_iload_n rfl rfl ?_
  refine xo_iconstV (x := 1) rfl (by decide) ?_
  refine d_icmp_eq rfl rfl e (fun _ e => ?_) (fun _ e => ?_)
  · exact t92_30 e
  · exact t92_26 e
def b92_15 (F : Nat) (l0 : Option Nat) (l1 : Option Nat) (l2 : Int32) : xm Unit := mb (nn l0) fun v1 => mb (vc 3 v1) fun _ => mb (m91 F v1 l1 (0 : Int32)) fun _ => b92_21 F (some v1) l1 l2
theorem t92_15 {sc : Nat × (Nat → Int32)} {F : Nat} {r : Unit} {h' : xv_H} {l0 : Option Nat} {l1 : Option Nat} {l2 : Int32} {h : xv_H} (e : b92_15 F l0 l1 l2 h = some (r, h')) : xx sc 92 15 [some (va_rf l0), some (va_rf l1), some (.int l2)] [] h (fun v g => v = none ∧ g = h') := by
  unfold b92_15 at e
  refine xo_aload_nQ (w := l0) rfl rfl ?_
  refine xo_aload_nQ (w := l1) rfl rfl ?_
  refine xo_iconstV (x := 0) rfl (by decide) ?_
  refine d_nn e (fun v1 g e1 => ?_)
  subst g
  replace e := e1
  clear e1
  refine d_virtual_v (av := [va_rf l1, .int (0 : Int32)]) (rest := []) rfl ⟨by decide, by decide⟩ rfl rfl (by simp [xv_fit, va_rf_cat, cat_int, cat_long, cat_ref, cat_null, show xt_mx 91 = 4 from rfl, show xt_lg 91 = [] from rfl]) (by simp [xv_room, va_rf_cat, cat_int, cat_long, cat_ref, cat_null]) (fun x0 h1 e1 => t91 e1) e (fun _ h e => ?_)
  exact t92_21 e
def b92_0 (F : Nat) (l0 : Option Nat) (l1 : Option Nat) : xm Unit := mb (nn l0) fun v1 => mb (gr 303 v1) fun v2 => mb (nn l1) fun v3 => mb (gi 405 v3) fun v4 => mb (nn v2) fun v5 => mb (lb v5 v4) fun v6 => if ¬ v6 = (1 : Int32) then b92_21 F (some v1) (some v3) v6 else b92_15 F (some v1) (some v3) v6
theorem t92_0 {sc : Nat × (Nat → Int32)} {F : Nat} {r : Unit} {h' : xv_H} {l0 : Option Nat} {l1 : Option Nat} {d2 : Option Value} {h : xv_H} (e : b92_0 F l0 l1 h = some (r, h')) : xx sc 92 0 [some (va_rf l0), some (va_rf l1), d2] [] h (fun v g => v = none ∧ g = h') := by
  unfold b92_0 at e
  refine xo_aload_nQ (w := l0) rfl rfl ?_
  refine d_nn e (fun v1 g e1 => ?_)
  subst g
  replace e := e1
  clear e1
  refine d_getr rfl e (fun v2 e => ?_)
  refine xo_aload_nQ (w := l1) rfl rfl ?_
  refine d_nn e (fun v3 g e1 => ?_)
  subst g
  replace e := e1
  clear e1
  refine d_geti rfl e (fun v4 e => ?_)
  refine d_nn e (fun v5 g e1 => ?_)
  subst g
  replace e := e1
  clear e1
  refine d_bald rfl e (fun v6 e => ?_)
  refine xo_istore_n rfl (Nat.le_of_ble_eq_true rfl) rfl ?_
  refine xo_iload_n rfl rfl ?_
  refine xo_iconstV (x := 1) rfl (by decide) ?_
  refine d_icmp_ne rfl rfl e (fun _ e => ?_) (fun _ e => ?_)
  · exact t92_21 e
  · exact t92_15 e
def m92 (F : Nat) (this : Nat) (p0 : Option Nat) : xm Unit := b92_0 F (some this) p0
theorem t92 {sc : Nat × (Nat → Int32)} {F : Nat} {this : Nat} {p0 : Option Nat} {h : xv_H} {r : Unit} {h' : xv_H} (e : m92 F this p0 h = some (r, h')) : xr sc 92 [.ref this, va_rf p0] h (fun v g => v = none ∧ g = h') := by
  have e0 : xv_ent (xt_mx 92) [.ref this, va_rf p0] = [some (va_rf (some this)), some (va_rf p0), none] := by simp [xv_ent, xv_sl, va_rf_cat, cat_int, cat_long, cat_ref, cat_null, va_rf_some, show xt_mx 92 = 3 from rfl]
  unfold xr
  rw [e0]
  exact t92_0 e
-- CellTree$Transaction.isRead()Z
def b94_28 (F : Nat) (s0 : Int32) : xm Int32 := mb (bz s0) fun _ => mr s0
theorem t94_28 {sc : Nat × (Nat → Int32)} {F : Nat} {r : Int32} {h' : xv_H} {s0 : Int32} {d0 : Option Value} {h : xv_H} (e : b94_28 F s0 h = some (r, h')) : xx sc 94 28 [d0] [.int s0] h (fun v g => v = some (.int r) ∧ g = h') := by
  unfold b94_28 at e
  exact d_zret rfl e
def b94_27 (F : Nat) : xm Int32 := b94_28 F (0 : Int32)
theorem t94_27 {sc : Nat × (Nat → Int32)} {F : Nat} {r : Int32} {h' : xv_H} {d0 : Option Value} {h : xv_H} (e : b94_27 F h = some (r, h')) : xx sc 94 27 [d0] [] h (fun v g => v = some (.int r) ∧ g = h') := by
  unfold b94_27 at e
  refine xo_iconstV (x := 0) rfl (by decide) ?_
  exact t94_28 e
def b94_23 (F : Nat) : xm Int32 := b94_28 F (1 : Int32)
theorem t94_23 {sc : Nat × (Nat → Int32)} {F : Nat} {r : Int32} {h' : xv_H} {d0 : Option Value} {h : xv_H} (e : b94_23 F h = some (r, h')) : xx sc 94 23 [d0] [] h (fun v g => v = some (.int r) ∧ g = h') := by
  unfold b94_23 at e
  refine xo_iconstV (x := 1) rfl (by decide) ?_
  refine xo_goto rfl rfl ?_
  exact t94_28 e
def b94_8 (F : Nat) (l0 : Option Nat) : xm Int32 := mb (nn l0) fun v1 => mb (gr 401 v1) fun v2 => mb (nn v2) fun v3 => mb (lr 107 v3 (0 : Int32)) fun v4 => mb (nn v4) fun v5 => mb (gr 500 v5) fun v6 => mb (cq v6 (some (xv_SB + 7))) fun _ => if ¬ v6 = (some (xv_SB + 7)) then b94_27 F else b94_23 F
theorem t94_8 {sc : Nat × (Nat → Int32)} {F : Nat} {r : Int32} {h' : xv_H} {l0 : Option Nat} {h : xv_H} (e : b94_8 F l0 h = some (r, h')) : xx sc 94 8 [some (va_rf l0)] [] h (fun v g => v = some (.int r) ∧ g = h') := by
  unfold b94_8 at e
  refine xo_aload_nQ (w := l0) rfl rfl ?_
  refine d_nn e (fun v1 g e1 => ?_)
  subst g
  replace e := e1
  clear e1
  refine d_getr rfl e (fun v2 e => ?_)
  refine xo_iconstV (x := 0) rfl (by decide) ?_
  refine d_nn e (fun v3 g e1 => ?_)
  subst g
  replace e := e1
  clear e1
  refine d_aald rfl e (fun v4 e => ?_)
  refine d_nn e (fun v5 g e1 => ?_)
  subst g
  replace e := e1
  clear e1
  refine d_getr rfl e (fun v6 e => ?_)
  refine xo_getsV rfl ?_
  refine d_acmp_ne (w1 := v6) (w2 := (some (xv_SB + 7))) rfl rfl e (fun _ e => ?_) (fun _ e => ?_)
  · exact t94_27 e
  · exact t94_23 e
def b94_0 (F : Nat) (l0 : Option Nat) : xm Int32 := mb (nn l0) fun v1 => mb (gi 404 v1) fun v2 => if ¬ v2 = (1 : Int32) then b94_27 F else b94_8 F (some v1)
theorem t94_0 {sc : Nat × (Nat → Int32)} {F : Nat} {r : Int32} {h' : xv_H} {l0 : Option Nat} {h : xv_H} (e : b94_0 F l0 h = some (r, h')) : xx sc 94 0 [some (va_rf l0)] [] h (fun v g => v = some (.int r) ∧ g = h') := by
  unfold b94_0 at e
  refine xo_aload_nQ (w := l0) rfl rfl ?_
  refine d_nn e (fun v1 g e1 => ?_)
  subst g
  replace e := e1
  clear e1
  refine d_geti rfl e (fun v2 e => ?_)
  refine xo_iconstV (x := 1) rfl (by decide) ?_
  refine d_icmp_ne rfl rfl e (fun _ e => ?_) (fun _ e => ?_)
  · exact t94_27 e
  · exact t94_8 e
def m94 (F : Nat) (this : Nat) : xm Int32 := b94_0 F (some this)
theorem t94 {sc : Nat × (Nat → Int32)} {F : Nat} {this : Nat} {h : xv_H} {r : Int32} {h' : xv_H} (e : m94 F this h = some (r, h')) : xr sc 94 [.ref this] h (fun v g => v = some (.int r) ∧ g = h') := by
  have e0 : xv_ent (xt_mx 94) [.ref this] = [some (va_rf (some this))] := by simp [xv_ent, xv_sl, va_rf_cat, cat_int, cat_long, cat_ref, cat_null, va_rf_some, show xt_mx 94 = 1 from rfl]
  unfold xr
  rw [e0]
  exact t94_0 e
-- CellTree$Item.fits(LCellTree$Cell;)Z
def b96_52 (F : Nat) (s0 : Int32) : xm Int32 := mb (bz s0) fun _ => mr s0
theorem t96_52 {sc : Nat × (Nat → Int32)} {F : Nat} {r : Int32} {h' : xv_H} {s0 : Int32} {d0 d1 : Option Value} {h : xv_H} (e : b96_52 F s0 h = some (r, h')) : xx sc 96 52 [d0, d1] [.int s0] h (fun v g => v = some (.int r) ∧ g = h') := by
  unfold b96_52 at e
  exact d_zret rfl e
def b96_51 (F : Nat) : xm Int32 := b96_52 F (0 : Int32)
theorem t96_51 {sc : Nat × (Nat → Int32)} {F : Nat} {r : Int32} {h' : xv_H} {d0 d1 : Option Value} {h : xv_H} (e : b96_51 F h = some (r, h')) : xx sc 96 51 [d0, d1] [] h (fun v g => v = some (.int r) ∧ g = h') := by
  unfold b96_51 at e
  refine xo_iconstV (x := 0) rfl (by decide) ?_
  exact t96_52 e
def b96_47 (F : Nat) : xm Int32 := b96_52 F (1 : Int32)
theorem t96_47 {sc : Nat × (Nat → Int32)} {F : Nat} {r : Int32} {h' : xv_H} {d0 d1 : Option Value} {h : xv_H} (e : b96_47 F h = some (r, h')) : xx sc 96 47 [d0, d1] [] h (fun v g => v = some (.int r) ∧ g = h') := by
  unfold b96_47 at e
  refine xo_iconstV (x := 1) rfl (by decide) ?_
  refine xo_goto rfl rfl ?_
  exact t96_52 e
def b96_36 (F : Nat) (l0 : Option Nat) (l1 : Option Nat) : xm Int32 := mb (nn l1) fun v1 => mb (gi 700 v1) fun v2 => mb (nn l0) fun v3 => mb (gi 502 v3) fun v4 => if ¬ v2 = v4 then b96_51 F else b96_47 F
theorem t96_36 {sc : Nat × (Nat → Int32)} {F : Nat} {r : Int32} {h' : xv_H} {l0 : Option Nat} {l1 : Option Nat} {h : xv_H} (e : b96_36 F l0 l1 h = some (r, h')) : xx sc 96 36 [some (va_rf l0), some (va_rf l1)] [] h (fun v g => v = some (.int r) ∧ g = h') := by
  unfold b96_36 at e
  refine xo_aload_nQ (w := l1) rfl rfl ?_
  refine d_nn e (fun v1 g e1 => ?_)
  subst g
  replace e := e1
  clear e1
  refine d_geti rfl e (fun v2 e => ?_)
  refine xo_aload_nQ (w := l0) rfl rfl ?_
  refine d_nn e (fun v3 g e1 => ?_)
  subst g
  replace e := e1
  clear e1
  refine d_geti rfl e (fun v4 e => ?_)
  refine d_icmp_ne rfl rfl e (fun _ e => ?_) (fun _ e => ?_)
  · exact t96_51 e
  · exact t96_47 e
def b96_26 (F : Nat) (l0 : Option Nat) (l1 : Option Nat) : xm Int32 := mb (nn l0) fun v1 => mb (gr 500 v1) fun v2 => mb (cq v2 (some (xv_SB + 7))) fun _ => if v2 = (some (xv_SB + 7)) then b96_47 F else b96_36 F (some v1) l1
theorem t96_26 {sc : Nat × (Nat → Int32)} {F : Nat} {r : Int32} {h' : xv_H} {l0 : Option Nat} {l1 : Option Nat} {h : xv_H} (e : b96_26 F l0 l1 h = some (r, h')) : xx sc 96 26 [some (va_rf l0), some (va_rf l1)] [] h (fun v g => v = some (.int r) ∧ g = h') := by
  unfold b96_26 at e
  refine xo_aload_nQ (w := l0) rfl rfl ?_
  refine d_nn e (fun v1 g e1 => ?_)
  subst g
  replace e := e1
  clear e1
  refine d_getr rfl e (fun v2 e => ?_)
  refine xo_getsV rfl ?_
  refine d_acmp_eq (w1 := v2) (w2 := (some (xv_SB + 7))) rfl rfl e (fun _ e => ?_) (fun _ e => ?_)
  · exact t96_47 e
  · exact t96_36 e
def b96_25 (F : Nat) (s0 : Int32) : xm Int32 := mb (bz s0) fun _ => mr s0
theorem t96_25 {sc : Nat × (Nat → Int32)} {F : Nat} {r : Int32} {h' : xv_H} {s0 : Int32} {d0 d1 : Option Value} {h : xv_H} (e : b96_25 F s0 h = some (r, h')) : xx sc 96 25 [d0, d1] [.int s0] h (fun v g => v = some (.int r) ∧ g = h') := by
  unfold b96_25 at e
  exact d_zret rfl e
def b96_24 (F : Nat) : xm Int32 := b96_25 F (0 : Int32)
theorem t96_24 {sc : Nat × (Nat → Int32)} {F : Nat} {r : Int32} {h' : xv_H} {d0 d1 : Option Value} {h : xv_H} (e : b96_24 F h = some (r, h')) : xx sc 96 24 [d0, d1] [] h (fun v g => v = some (.int r) ∧ g = h') := by
  unfold b96_24 at e
  refine xo_iconstV (x := 0) rfl (by decide) ?_
  exact t96_25 e
def b96_20 (F : Nat) : xm Int32 := b96_25 F (1 : Int32)
theorem t96_20 {sc : Nat × (Nat → Int32)} {F : Nat} {r : Int32} {h' : xv_H} {d0 d1 : Option Value} {h : xv_H} (e : b96_20 F h = some (r, h')) : xx sc 96 20 [d0, d1] [] h (fun v g => v = some (.int r) ∧ g = h') := by
  unfold b96_20 at e
  refine xo_iconstV (x := 1) rfl (by decide) ?_
  refine xo_goto rfl rfl ?_
  exact t96_25 e
def b96_10 (F : Nat) (l1 : Option Nat) : xm Int32 := mb (nn l1) fun v1 => mb (gr 701 v1) fun v2 => mb (nn v2) fun v3 => mb (gi 600 v3) fun v4 => if ¬ v4 = 0 then b96_24 F else b96_20 F
theorem t96_10 {sc : Nat × (Nat → Int32)} {F : Nat} {r : Int32} {h' : xv_H} {l1 : Option Nat} {d0 : Option Value} {h : xv_H} (e : b96_10 F l1 h = some (r, h')) : xx sc 96 10 [d0, some (va_rf l1)] [] h (fun v g => v = some (.int r) ∧ g = h') := by
  unfold b96_10 at e
  refine xo_aload_nQ (w := l1) rfl rfl ?_
  refine d_nn e (fun v1 g e1 => ?_)
  subst g
  replace e := e1
  clear e1
  refine d_getr rfl e (fun v2 e => ?_)
  refine d_nn e (fun v3 g e1 => ?_)
  subst g
  replace e := e1
  clear e1
  refine d_geti rfl e (fun v4 e => ?_)
  refine d_if_ne rfl rfl e (fun _ e => ?_) (fun _ e => ?_)
  · exact t96_24 e
  · exact t96_20 e
def b96_0 (F : Nat) (l0 : Option Nat) (l1 : Option Nat) : xm Int32 := mb (nn l0) fun v1 => mb (gr 500 v1) fun v2 => mb (cq v2 (some (xv_SB + 10))) fun _ => if ¬ v2 = (some (xv_SB + 10)) then b96_26 F (some v1) l1 else b96_10 F l1
theorem t96_0 {sc : Nat × (Nat → Int32)} {F : Nat} {r : Int32} {h' : xv_H} {l0 : Option Nat} {l1 : Option Nat} {h : xv_H} (e : b96_0 F l0 l1 h = some (r, h')) : xx sc 96 0 [some (va_rf l0), some (va_rf l1)] [] h (fun v g => v = some (.int r) ∧ g = h') := by
  unfold b96_0 at e
  refine xo_aload_nQ (w := l0) rfl rfl ?_
  refine d_nn e (fun v1 g e1 => ?_)
  subst g
  replace e := e1
  clear e1
  refine d_getr rfl e (fun v2 e => ?_)
  refine xo_getsV rfl ?_
  refine d_acmp_ne (w1 := v2) (w2 := (some (xv_SB + 10))) rfl rfl e (fun _ e => ?_) (fun _ e => ?_)
  · exact t96_26 e
  · exact t96_10 e
def m96 (F : Nat) (this : Nat) (p0 : Option Nat) : xm Int32 := b96_0 F (some this) p0
theorem t96 {sc : Nat × (Nat → Int32)} {F : Nat} {this : Nat} {p0 : Option Nat} {h : xv_H} {r : Int32} {h' : xv_H} (e : m96 F this p0 h = some (r, h')) : xr sc 96 [.ref this, va_rf p0] h (fun v g => v = some (.int r) ∧ g = h') := by
  have e0 : xv_ent (xt_mx 96) [.ref this, va_rf p0] = [some (va_rf (some this)), some (va_rf p0)] := by simp [xv_ent, xv_sl, va_rf_cat, cat_int, cat_long, cat_ref, cat_null, va_rf_some, show xt_mx 96 = 2 from rfl]
  unfold xr
  rw [e0]
  exact t96_0 e
-- CellTree$MemoryNode.canTake(LCellTree$Transaction;)Z
def b95_66 (F : Nat) : xm Int32 := mb (bz (1 : Int32)) fun _ => mr (1 : Int32)
theorem t95_66 {sc : Nat × (Nat → Int32)} {F : Nat} {r : Int32} {h' : xv_H} {d0 d1 d2 d3 d4 : Option Value} {h : xv_H} (e : b95_66 F h = some (r, h')) : xx sc 95 66 [d0, d1, d2, d3, d4] [] h (fun v g => v = some (.int r) ∧ g = h') := by
  unfold b95_66 at e
  refine xo_iconstV (x := 1) rfl (by decide) ?_
  exact d_zret rfl e
def b95_60 (k2 : Option Nat → Option Nat → Int32 → xm Int32) (F : Nat) (l0 : Option Nat) (l1 : Option Nat) (l2 : Int32) : xm Int32 := k2 l0 l1 (l2 + (1 : Int32))
theorem t95_60 {sc : Nat × (Nat → Int32)} {F : Nat} {r : Int32} {h' : xv_H} {k2 : Option Nat → Option Nat → Int32 → xm Int32} (hk2 : ∀ (l0 : Option Nat) (l1 : Option Nat) (l2 : Int32) (d3 d4 : Option Value) (h : xv_H), k2 l0 l1 l2 h = some (r, h') → xx sc 95 2 [some (va_rf l0), some (va_rf l1), some (.int l2), d3, d4] [] h (fun v g => v = some (.int r) ∧ g = h')) {l0 : Option Nat} {l1 : Option Nat} {l2 : Int32} {d3 d4 : Option Value} {h : xv_H} (e : b95_60 k2 F l0 l1 l2 h = some (r, h')) : xx sc 95 60 [some (va_rf l0), some (va_rf l1), some (.int l2), d3, d4] [] h (fun v g => v = some (.int r) ∧ g = h') := by
  unfold b95_60 at e
  refine xo_iincV (z := 1) rfl (by decide) rfl (Nat.le_of_ble_eq_true rfl) rfl ?_
  refine xo_goto rfl rfl ?_
  exact hk2 _ _ _ _ _ _ e
def b95_58 (k2 : Option Nat → Option Nat → Int32 → xm Int32) (F : Nat) : xm Int32 := mb (bz (0 : Int32)) fun _ => mr (0 : Int32)
theorem t95_58 {sc : Nat × (Nat → Int32)} {F : Nat} {r : Int32} {h' : xv_H} {k2 : Option Nat → Option Nat → Int32 → xm Int32} (hk2 : ∀ (l0 : Option Nat) (l1 : Option Nat) (l2 : Int32) (d3 d4 : Option Value) (h : xv_H), k2 l0 l1 l2 h = some (r, h') → xx sc 95 2 [some (va_rf l0), some (va_rf l1), some (.int l2), d3, d4] [] h (fun v g => v = some (.int r) ∧ g = h')) {d0 d1 d2 d3 d4 : Option Value} {h : xv_H} (e : b95_58 k2 F h = some (r, h')) : xx sc 95 58 [d0, d1, d2, d3, d4] [] h (fun v g => v = some (.int r) ∧ g = h') := by
  unfold b95_58 at e
  refine xo_iconstV (x := 0) rfl (by decide) ?_
  exact d_zret rfl e
def b95_44 (k2 : Option Nat → Option Nat → Int32 → xm Int32) (F : Nat) (l0 : Option Nat) (l1 : Option Nat) (l2 : Int32) (l3 : Option Nat) (l4 : Int32) : xm Int32 := mb (nn l0) fun v1 => mb (gr 301 v1) fun v2 => mb (nn v2) fun v3 => mb (lr 108 v3 l4) fun v4 => mb (nn l3) fun v5 => mb (vc 5 v5) fun _ => mb (m96 F v5 v4) fun v6 => if ¬ v6 = 0 then b95_60 k2 F (some v1) l1 l2 else b95_58 k2 F
theorem t95_44 {sc : Nat × (Nat → Int32)} {F : Nat} {r : Int32} {h' : xv_H} {k2 : Option Nat → Option Nat → Int32 → xm Int32} (hk2 : ∀ (l0 : Option Nat) (l1 : Option Nat) (l2 : Int32) (d3 d4 : Option Value) (h : xv_H), k2 l0 l1 l2 h = some (r, h') → xx sc 95 2 [some (va_rf l0), some (va_rf l1), some (.int l2), d3, d4] [] h (fun v g => v = some (.int r) ∧ g = h')) {l0 : Option Nat} {l1 : Option Nat} {l2 : Int32} {l3 : Option Nat} {l4 : Int32} {h : xv_H} (e : b95_44 k2 F l0 l1 l2 l3 l4 h = some (r, h')) : xx sc 95 44 [some (va_rf l0), some (va_rf l1), some (.int l2), some (va_rf l3), some (.int l4)] [] h (fun v g => v = some (.int r) ∧ g = h') := by
  unfold b95_44 at e
  refine xo_aload_nQ (w := l3) rfl rfl ?_
  refine xo_aload_nQ (w := l0) rfl rfl ?_
  refine d_nn e (fun v1 g e1 => ?_)
  subst g
  replace e := e1
  clear e1
  refine d_getr rfl e (fun v2 e => ?_)
  refine xo_iload rfl rfl ?_
  refine d_nn e (fun v3 g e1 => ?_)
  subst g
  replace e := e1
  clear e1
  refine d_aald rfl e (fun v4 e => ?_)
  refine d_nn e (fun v5 g e1 => ?_)
  subst g
  replace e := e1
  clear e1
  refine d_virtual_i (av := [va_rf v4]) (rest := []) rfl ⟨by decide, by decide⟩ rfl rfl (by simp [xv_fit, va_rf_cat, cat_int, cat_long, cat_ref, cat_null, show xt_mx 96 = 2 from rfl, show xt_lg 96 = [] from rfl]) (by simp [xv_room, va_rf_cat, cat_int, cat_long, cat_ref, cat_null]) (fun x0 h1 e1 => t96 e1) e (fun v6 h e => ?_)
  refine d_if_ne rfl rfl e (fun _ e => ?_) (fun _ e => ?_)
  · exact t95_60 hk2 e
  · exact t95_58 hk2 e
def b95_34 (k2 : Option Nat → Option Nat → Int32 → xm Int32) (F : Nat) (l0 : Option Nat) (l1 : Option Nat) (l2 : Int32) (l3 : Option Nat) (l4 : Int32) : xm Int32 := mb (nn l0) fun v1 => mb (gr 302 v1) fun v2 => mb (nn v2) fun v3 => mb (li v3 l4) fun v4 => if ¬ v4 = 0 then b95_58 k2 F else b95_44 k2 F (some v1) l1 l2 l3 l4
theorem t95_34 {sc : Nat × (Nat → Int32)} {F : Nat} {r : Int32} {h' : xv_H} {k2 : Option Nat → Option Nat → Int32 → xm Int32} (hk2 : ∀ (l0 : Option Nat) (l1 : Option Nat) (l2 : Int32) (d3 d4 : Option Value) (h : xv_H), k2 l0 l1 l2 h = some (r, h') → xx sc 95 2 [some (va_rf l0), some (va_rf l1), some (.int l2), d3, d4] [] h (fun v g => v = some (.int r) ∧ g = h')) {l0 : Option Nat} {l1 : Option Nat} {l2 : Int32} {l3 : Option Nat} {l4 : Int32} {h : xv_H} (e : b95_34 k2 F l0 l1 l2 l3 l4 h = some (r, h')) : xx sc 95 34 [some (va_rf l0), some (va_rf l1), some (.int l2), some (va_rf l3), some (.int l4)] [] h (fun v g => v = some (.int r) ∧ g = h') := by
  unfold b95_34 at e
  refine xo_aload_nQ (w := l0) rfl rfl ?_
  refine d_nn e (fun v1 g e1 => ?_)
  subst g
  replace e := e1
  clear e1
  refine d_getr rfl e (fun v2 e => ?_)
  refine xo_iload rfl rfl ?_
  refine d_nn e (fun v3 g e1 => ?_)
  subst g
  replace e := e1
  clear e1
  refine d_iald rfl e (fun v4 e => ?_)
  refine d_if_ne rfl rfl e (fun _ e => ?_) (fun _ e => ?_)
  · exact t95_58 hk2 e
  · exact t95_44 hk2 e
def b95_10 (k2 : Option Nat → Option Nat → Int32 → xm Int32) (F : Nat) (l0 : Option Nat) (l1 : Option Nat) (l2 : Int32) : xm Int32 := mb (nn l1) fun v1 => mb (gr 401 v1) fun v2 => mb (nn v2) fun v3 => mb (lr 107 v3 l2) fun v4 => mb (nn v4) fun v5 => mb (gi 501 v5) fun v6 => mb (dz (8 : Int32)) fun _ => mb (nn l0) fun v7 => mb (vc 3 v7) fun _ => mb (m89 F v7 (some v5)) fun v8 => if v8 = 0 then b95_60 k2 F (some v7) (some v1) l2 else b95_34 k2 F (some v7) (some v1) l2 (some v5) (v6 - v6 / (8 : Int32) * (8 : Int32))
theorem t95_10 {sc : Nat × (Nat → Int32)} {F : Nat} {r : Int32} {h' : xv_H} {k2 : Option Nat → Option Nat → Int32 → xm Int32} (hk2 : ∀ (l0 : Option Nat) (l1 : Option Nat) (l2 : Int32) (d3 d4 : Option Value) (h : xv_H), k2 l0 l1 l2 h = some (r, h') → xx sc 95 2 [some (va_rf l0), some (va_rf l1), some (.int l2), d3, d4] [] h (fun v g => v = some (.int r) ∧ g = h')) {l0 : Option Nat} {l1 : Option Nat} {l2 : Int32} {d3 d4 : Option Value} {h : xv_H} (e : b95_10 k2 F l0 l1 l2 h = some (r, h')) : xx sc 95 10 [some (va_rf l0), some (va_rf l1), some (.int l2), d3, d4] [] h (fun v g => v = some (.int r) ∧ g = h') := by
  unfold b95_10 at e
  refine xo_aload_nQ (w := l1) rfl rfl ?_
  refine d_nn e (fun v1 g e1 => ?_)
  subst g
  replace e := e1
  clear e1
  refine d_getr rfl e (fun v2 e => ?_)
  refine xo_iload_n rfl rfl ?_
  refine d_nn e (fun v3 g e1 => ?_)
  subst g
  replace e := e1
  clear e1
  refine d_aald rfl e (fun v4 e => ?_)
  refine xo_astore_nQ (w := v4) rfl (Nat.le_of_ble_eq_true rfl) rfl ?_
  refine xo_aload_nQ (w := v4) rfl rfl ?_
  refine d_nn e (fun v5 g e1 => ?_)
  subst g
  replace e := e1
  clear e1
  refine d_geti rfl e (fun v6 e => ?_)
  refine xo_bipushV (x := 8) rfl (by decide) ?_
  refine d_irem rfl e (fun e => ?_)
  refine xo_istore rfl (Nat.le_of_ble_eq_true rfl) rfl ?_
  refine xo_aload_nQ (w := l0) rfl rfl ?_
  refine xo_aload_nQ (w := (some v5)) rfl rfl ?_
  refine d_nn e (fun v7 g e1 => ?_)
  subst g
  replace e := e1
  clear e1
  refine d_virtual_i (av := [va_rf (some v5)]) (rest := []) rfl ⟨by decide, by decide⟩ rfl rfl (by simp [xv_fit, va_rf_cat, cat_int, cat_long, cat_ref, cat_null, show xt_mx 89 = 2 from rfl, show xt_lg 89 = [] from rfl]) (by simp [xv_room, va_rf_cat, cat_int, cat_long, cat_ref, cat_null]) (fun x0 h1 e1 => t89 e1) e (fun v8 h e => ?_)
  refine d_if_eq rfl rfl e (fun _ e => ?_) (fun _ e => ?_)
  · exact t95_60 hk2 e
  · exact t95_34 hk2 e
def b95_2 (F : Nat) : Nat → Option Nat → Option Nat → Int32 → xm Int32
  | 0, _, _, _ => fun _ => none
  | f + 1, l0, l1, l2 => mb (nn l1) fun v1 => mb (gi 404 v1) fun v2 => if v2 ≤ l2 then b95_66 F else b95_10 (b95_2 F f) F l0 (some v1) l2
theorem t95_2 {sc : Nat × (Nat → Int32)} {F : Nat} {r : Int32} {h' : xv_H} : ∀ (f : Nat) (l0 : Option Nat) (l1 : Option Nat) (l2 : Int32) (d3 d4 : Option Value) (h : xv_H), b95_2 F f l0 l1 l2 h = some (r, h') → xx sc 95 2 [some (va_rf l0), some (va_rf l1), some (.int l2), d3, d4] [] h (fun v g => v = some (.int r) ∧ g = h') := by
  intro f
  induction f with
  | zero => intro l0 l1 l2 d3 d4 h e; cases e
  | succ f ih =>
    intro l0 l1 l2 d3 d4 h e
    unfold b95_2 at e
    refine xo_iload_n rfl rfl ?_
    refine xo_aload_nQ (w := l1) rfl rfl ?_
    refine d_nn e (fun v1 g e1 => ?_)
    subst g
    replace e := e1
    clear e1
    refine d_geti rfl e (fun v2 e => ?_)
    refine d_icmp_ge rfl rfl e (fun _ e => ?_) (fun _ e => ?_)
    · exact t95_66 e
    · exact t95_10 (fun a0 a1 a2 a3 a4 h e => ih a0 a1 a2 a3 a4 h e) e
def b95_0 (F : Nat) (l0 : Option Nat) (l1 : Option Nat) : xm Int32 := b95_2 F F l0 l1 (0 : Int32)
theorem t95_0 {sc : Nat × (Nat → Int32)} {F : Nat} {r : Int32} {h' : xv_H} {l0 : Option Nat} {l1 : Option Nat} {d2 d3 d4 : Option Value} {h : xv_H} (e : b95_0 F l0 l1 h = some (r, h')) : xx sc 95 0 [some (va_rf l0), some (va_rf l1), d2, d3, d4] [] h (fun v g => v = some (.int r) ∧ g = h') := by
  unfold b95_0 at e
  refine xo_iconstV (x := 0) rfl (by decide) ?_
  refine xo_istore_n rfl (Nat.le_of_ble_eq_true rfl) rfl ?_
  exact t95_2 F _ _ _ _ _ _ e
def m95 (F : Nat) (this : Nat) (p0 : Option Nat) : xm Int32 := b95_0 F (some this) p0
theorem t95 {sc : Nat × (Nat → Int32)} {F : Nat} {this : Nat} {p0 : Option Nat} {h : xv_H} {r : Int32} {h' : xv_H} (e : m95 F this p0 h = some (r, h')) : xr sc 95 [.ref this, va_rf p0] h (fun v g => v = some (.int r) ∧ g = h') := by
  have e0 : xv_ent (xt_mx 95) [.ref this, va_rf p0] = [some (va_rf (some this)), some (va_rf p0), none, none, none] := by simp [xv_ent, xv_sl, va_rf_cat, cat_int, cat_long, cat_ref, cat_null, va_rf_some, show xt_mx 95 = 5 from rfl]
  unfold xr
  rw [e0]
  exact t95_0 e
-- CellTree$MemoryNode.accepts(LCellTree$Transaction;)Z
def b93_112 (F : Nat) : xm Int32 := mb (bz (1 : Int32)) fun _ => mr (1 : Int32)
theorem t93_112 {sc : Nat × (Nat → Int32)} {F : Nat} {r : Int32} {h' : xv_H} {d0 d1 d2 : Option Value} {h : xv_H} (e : b93_112 F h = some (r, h')) : xx sc 93 112 [d0, d1, d2] [] h (fun v g => v = some (.int r) ∧ g = h') := by
  unfold b93_112 at e
  refine xo_iconstV (x := 1) rfl (by decide) ?_
  exact d_zret rfl e
def b93_107 (F : Nat) (l0 : Option Nat) (l1 : Option Nat) : xm Int32 := mb (nn l0) fun v1 => mb (vc 3 v1) fun _ => mb (m88 F v1 l1) fun _ => b93_112 F
theorem t93_107 {sc : Nat × (Nat → Int32)} {F : Nat} {r : Int32} {h' : xv_H} {l0 : Option Nat} {l1 : Option Nat} {d2 : Option Value} {h : xv_H} (e : b93_107 F l0 l1 h = some (r, h')) : xx sc 93 107 [some (va_rf l0), some (va_rf l1), d2] [] h (fun v g => v = some (.int r) ∧ g = h') := by
  unfold b93_107 at e
  refine xo_aload_nQ (w := l0) rfl rfl ?_
  refine xo_aload_nQ (w := l1) rfl rfl ?_
  refine d_nn e (fun v1 g e1 => ?_)
  subst g
  replace e := e1
  clear e1
  refine d_virtual_v (av := [va_rf l1]) (rest := []) rfl ⟨by decide, by decide⟩ rfl rfl (by simp [xv_fit, va_rf_cat, cat_int, cat_long, cat_ref, cat_null, show xt_mx 88 = 5 from rfl, show xt_lg 88 = [] from rfl]) (by simp [xv_room, va_rf_cat, cat_int, cat_long, cat_ref, cat_null]) (fun x0 h1 e1 => t88 e1) e (fun _ h e => ?_)
  exact t93_112 e
def b93_85 (F : Nat) (l0 : Option Nat) (l1 : Option Nat) : xm Int32 := mb (nn l0) fun v1 => mb (gr 303 v1) fun v2 => mb (nn l1) fun v3 => mb (gi 405 v3) fun v4 => mb (nn v2) fun v5 => mb (sb v5 v4 (1 : Int32)) fun _ => mb (gi 405 v3) fun v6 => mb (vc 3 v1) fun _ => mb (m91 F v1 (some v3) v6) fun _ => b93_112 F
theorem t93_85 {sc : Nat × (Nat → Int32)} {F : Nat} {r : Int32} {h' : xv_H} {l0 : Option Nat} {l1 : Option Nat} {d2 : Option Value} {h : xv_H} (e : b93_85 F l0 l1 h = some (r, h')) : xx sc 93 85 [some (va_rf l0), some (va_rf l1), d2] [] h (fun v g => v = some (.int r) ∧ g = h') := by
  unfold b93_85 at e
  refine xo_aload_nQ (w := l0) rfl rfl ?_
  refine d_nn e (fun v1 g e1 => ?_)
  subst g
  replace e := e1
  clear e1
  refine d_getr rfl e (fun v2 e => ?_)
  refine xo_aload_nQ (w := l1) rfl rfl ?_
  refine d_nn e (fun v3 g e1 => ?_)
  subst g
  replace e := e1
  clear e1
  refine d_geti rfl e (fun v4 e => ?_)
  refine xo_iconstV (x := 1) rfl (by decide) ?_
  refine d_nn e (fun v5 g e1 => ?_)
  subst g
  replace e := e1
  clear e1
  refine d_bast rfl e (fun h e => ?_)
  refine xo_aload_nQ (w := (some v1)) rfl rfl ?_
  refine xo_aload_nQ (w := (some v3)) rfl rfl ?_
  refine xo_aload_nQ (w := (some v3)) rfl rfl ?_
  refine d_geti rfl e (fun v6 e => ?_)
  refine d_virtual_v (av := [va_rf (some v3), .int v6]) (rest := []) rfl ⟨by decide, by decide⟩ rfl rfl (by simp [xv_fit, va_rf_cat, cat_int, cat_long, cat_ref, cat_null, show xt_mx 91 = 4 from rfl, show xt_lg 91 = [] from rfl]) (by simp [xv_room, va_rf_cat, cat_int, cat_long, cat_ref, cat_null]) (fun x0 h1 e1 => t91 e1) e (fun _ h e => ?_)
  refine xo_goto rfl rfl ?_
  exact t93_112 e
def b93_78 (F : Nat) (l0 : Option Nat) (l1 : Option Nat) : xm Int32 := mb (nn l1) fun v1 => mb (vc 4 v1) fun _ => mb (m79 F v1) fun v2 => if v2 = 0 then b93_107 F l0 (some v1) else b93_85 F l0 (some v1)
theorem t93_78 {sc : Nat × (Nat → Int32)} {F : Nat} {r : Int32} {h' : xv_H} {l0 : Option Nat} {l1 : Option Nat} {d2 : Option Value} {h : xv_H} (e : b93_78 F l0 l1 h = some (r, h')) : xx sc 93 78 [some (va_rf l0), some (va_rf l1), d2] [] h (fun v g => v = some (.int r) ∧ g = h') := by
  unfold b93_78 at e
  refine xo_aload_nQ (w := l1) rfl rfl ?_
  refine d_nn e (fun v1 g e1 => ?_)
  subst g
  replace e := e1
  clear e1
  refine d_virtual_i (av := []) (rest := []) rfl ⟨by decide, by decide⟩ rfl rfl (by simp [xv_fit, va_rf_cat, cat_int, cat_long, cat_ref, cat_null, show xt_mx 79 = 3 from rfl, show xt_lg 79 = [] from rfl]) (by simp [xv_room, va_rf_cat, cat_int, cat_long, cat_ref, cat_null]) (fun x0 h1 e1 => t79 e1) e (fun v2 h e => ?_)
  refine d_if_eq rfl rfl e (fun _ e => ?_) (fun _ e => ?_)
  · exact t93_107 e
  · exact t93_85 e
def b93_66 (F : Nat) (l0 : Option Nat) (l1 : Option Nat) : xm Int32 := mb (nn l0) fun v1 => mb (gr 303 v1) fun v2 => mb (nn l1) fun v3 => mb (gi 405 v3) fun v4 => mb (nn v2) fun v5 => mb (sb v5 v4 (3 : Int32)) fun _ => mb (bz (0 : Int32)) fun _ => mr (0 : Int32)
theorem t93_66 {sc : Nat × (Nat → Int32)} {F : Nat} {r : Int32} {h' : xv_H} {l0 : Option Nat} {l1 : Option Nat} {d2 : Option Value} {h : xv_H} (e : b93_66 F l0 l1 h = some (r, h')) : xx sc 93 66 [some (va_rf l0), some (va_rf l1), d2] [] h (fun v g => v = some (.int r) ∧ g = h') := by
  unfold b93_66 at e
  refine xo_aload_nQ (w := l0) rfl rfl ?_
  refine d_nn e (fun v1 g e1 => ?_)
  subst g
  replace e := e1
  clear e1
  refine d_getr rfl e (fun v2 e => ?_)
  refine xo_aload_nQ (w := l1) rfl rfl ?_
  refine d_nn e (fun v3 g e1 => ?_)
  subst g
  replace e := e1
  clear e1
  refine d_geti rfl e (fun v4 e => ?_)
  refine xo_iconstV (x := 3) rfl (by decide) ?_
  refine d_nn e (fun v5 g e1 => ?_)
  subst g
  replace e := e1
  clear e1
  refine d_bast rfl e (fun h e => ?_)
  refine xo_iconstV (x := 0) rfl (by decide) ?_
  exact d_zret rfl e
def b93_58 (F : Nat) (l0 : Option Nat) (l1 : Option Nat) : xm Int32 := mb (nn l0) fun v1 => mb (vc 3 v1) fun _ => mb (m95 F v1 l1) fun v2 => if ¬ v2 = 0 then b93_78 F (some v1) l1 else b93_66 F (some v1) l1
theorem t93_58 {sc : Nat × (Nat → Int32)} {F : Nat} {r : Int32} {h' : xv_H} {l0 : Option Nat} {l1 : Option Nat} {d2 : Option Value} {h : xv_H} (e : b93_58 F l0 l1 h = some (r, h')) : xx sc 93 58 [some (va_rf l0), some (va_rf l1), d2] [] h (fun v g => v = some (.int r) ∧ g = h') := by
  unfold b93_58 at e
  refine xo_aload_nQ (w := l0) rfl rfl ?_
  refine xo_aload_nQ (w := l1) rfl rfl ?_
  refine d_nn e (fun v1 g e1 => ?_)
  subst g
  replace e := e1
  clear e1
  refine d_virtual_i (av := [va_rf l1]) (rest := []) rfl ⟨by decide, by decide⟩ rfl rfl (by simp [xv_fit, va_rf_cat, cat_int, cat_long, cat_ref, cat_null, show xt_mx 95 = 5 from rfl, show xt_lg 95 = [] from rfl]) (by simp [xv_room, va_rf_cat, cat_int, cat_long, cat_ref, cat_null]) (fun x0 h1 e1 => t95 e1) e (fun v2 h e => ?_)
  refine d_if_ne rfl rfl e (fun _ e => ?_) (fun _ e => ?_)
  · exact t93_78 e
  · exact t93_66 e
def b93_57 (F : Nat) (s0 : Int32) : xm Int32 := mb (bz s0) fun _ => mr s0
theorem t93_57 {sc : Nat × (Nat → Int32)} {F : Nat} {r : Int32} {h' : xv_H} {s0 : Int32} {d0 d1 d2 : Option Value} {h : xv_H} (e : b93_57 F s0 h = some (r, h')) : xx sc 93 57 [d0, d1, d2] [.int s0] h (fun v g => v = some (.int r) ∧ g = h') := by
  unfold b93_57 at e
  exact d_zret rfl e
def b93_56 (F : Nat) : xm Int32 := b93_57 F (0 : Int32)
theorem t93_56 {sc : Nat × (Nat → Int32)} {F : Nat} {r : Int32} {h' : xv_H} {d0 d1 d2 : Option Value} {h : xv_H} (e : b93_56 F h = some (r, h')) : xx sc 93 56 [d0, d1, d2] [] h (fun v g => v = some (.int r) ∧ g = h') := by
  unfold b93_56 at e
  refine xo_iconstV (x := 0) rfl (by decide) ?_
  exact t93_57 e
def b93_52 (F : Nat) : xm Int32 := b93_57 F (1 : Int32)
theorem t93_52 {sc : Nat × (Nat → Int32)} {F : Nat} {r : Int32} {h' : xv_H} {d0 d1 d2 : Option Value} {h : xv_H} (e : b93_52 F h = some (r, h')) : xx sc 93 52 [d0, d1, d2] [] h (fun v g => v = some (.int r) ∧ g = h') := by
  unfold b93_52 at e
  refine xo_iconstV (x := 1) rfl (by decide) ?_
  refine xo_goto rfl rfl ?_
  exact t93_57 e
def b93_47 (F : Nat) (l2 : Int32) : xm Int32 := if l2 = (3 : Int32) then b93_56 F else b93_52 F
theorem t93_47 {sc : Nat × (Nat → Int32)} {F : Nat} {r : Int32} {h' : xv_H} {l2 : Int32} {d0 d1 : Option Value} {h : xv_H} (e : b93_47 F l2 h = some (r, h')) : xx sc 93 47 [d0, d1, some (.int l2)] [] h (fun v g => v = some (.int r) ∧ g = h') := by
  unfold b93_47 at e
  refine xo_iload_n rfl rfl ?_
  refine xo_iconstV (x := 3) rfl (by decide) ?_
  refine d_icmp_eq rfl rfl e (fun _ e => ?_) (fun _ e => ?_)
  · exact t93_56 e
  · exact t93_52 e
def b93_33 (F : Nat) (l0 : Option Nat) (l1 : Option Nat) : xm Int32 := mb (nn l0) fun v1 => mb (gr 303 v1) fun v2 => mb (nn l1) fun v3 => mb (gi 405 v3) fun v4 => mb (nn v2) fun v5 => mb (lb v5 v4) fun v6 => if v6 = 0 then b93_58 F (some v1) (some v3) else b93_47 F v6
theorem t93_33 {sc : Nat × (Nat → Int32)} {F : Nat} {r : Int32} {h' : xv_H} {l0 : Option Nat} {l1 : Option Nat} {d2 : Option Value} {h : xv_H} (e : b93_33 F l0 l1 h = some (r, h')) : xx sc 93 33 [some (va_rf l0), some (va_rf l1), d2] [] h (fun v g => v = some (.int r) ∧ g = h') := by
  unfold b93_33 at e
  refine xo_aload_nQ (w := l0) rfl rfl ?_
  refine d_nn e (fun v1 g e1 => ?_)
  subst g
  replace e := e1
  clear e1
  refine d_getr rfl e (fun v2 e => ?_)
  refine xo_aload_nQ (w := l1) rfl rfl ?_
  refine d_nn e (fun v3 g e1 => ?_)
  subst g
  replace e := e1
  clear e1
  refine d_geti rfl e (fun v4 e => ?_)
  refine d_nn e (fun v5 g e1 => ?_)
  subst g
  replace e := e1
  clear e1
  refine d_bald rfl e (fun v6 e => ?_)
  refine xo_istore_n rfl (Nat.le_of_ble_eq_true rfl) rfl ?_
  refine xo_iload_n rfl rfl ?_
  refine d_if_eq rfl rfl e (fun _ e => ?_) (fun _ e => ?_)
  · exact t93_58 e
  · exact t93_47 e
def b93_32 (F : Nat) (s0 : Int32) : xm Int32 := mb (bz s0) fun _ => mr s0
theorem t93_32 {sc : Nat × (Nat → Int32)} {F : Nat} {r : Int32} {h' : xv_H} {s0 : Int32} {d0 d1 d2 : Option Value} {h : xv_H} (e : b93_32 F s0 h = some (r, h')) : xx sc 93 32 [d0, d1, d2] [.int s0] h (fun v g => v = some (.int r) ∧ g = h') := by
  unfold b93_32 at e
  exact d_zret rfl e
def b93_31 (F : Nat) : xm Int32 := b93_32 F (0 : Int32)
theorem t93_31 {sc : Nat × (Nat → Int32)} {F : Nat} {r : Int32} {h' : xv_H} {d0 d1 d2 : Option Value} {h : xv_H} (e : b93_31 F h = some (r, h')) : xx sc 93 31 [d0, d1, d2] [] h (fun v g => v = some (.int r) ∧ g = h') := by
  unfold b93_31 at e
  refine xo_iconstV (x := 0) rfl (by decide) ?_
  exact t93_32 e
def b93_27 (F : Nat) : xm Int32 := b93_32 F (1 : Int32)
theorem t93_27 {sc : Nat × (Nat → Int32)} {F : Nat} {r : Int32} {h' : xv_H} {d0 d1 d2 : Option Value} {h : xv_H} (e : b93_27 F h = some (r, h')) : xx sc 93 27 [d0, d1, d2] [] h (fun v g => v = some (.int r) ∧ g = h') := by
  unfold b93_27 at e
  refine xo_iconstV (x := 1) rfl (by decide) ?_
  refine xo_goto rfl rfl ?_
  exact t93_32 e
def b93_7 (F : Nat) (l0 : Option Nat) (l1 : Option Nat) : xm Int32 := mb (nn l0) fun v1 => mb (gr 302 v1) fun v2 => mb (nn l1) fun v3 => mb (gr 401 v3) fun v4 => mb (nn v4) fun v5 => mb (lr 107 v5 (0 : Int32)) fun v6 => mb (nn v6) fun v7 => mb (gi 501 v7) fun v8 => mb (dz (8 : Int32)) fun _ => mb (nn v2) fun v9 => mb (li v9 (v8 - v8 / (8 : Int32) * (8 : Int32))) fun v10 => if ¬ v10 = 0 then b93_31 F else b93_27 F
theorem t93_7 {sc : Nat × (Nat → Int32)} {F : Nat} {r : Int32} {h' : xv_H} {l0 : Option Nat} {l1 : Option Nat} {d2 : Option Value} {h : xv_H} (e : b93_7 F l0 l1 h = some (r, h')) : xx sc 93 7 [some (va_rf l0), some (va_rf l1), d2] [] h (fun v g => v = some (.int r) ∧ g = h') := by
  unfold b93_7 at e
  refine xo_aload_nQ (w := l0) rfl rfl ?_
  refine d_nn e (fun v1 g e1 => ?_)
  subst g
  replace e := e1
  clear e1
  refine d_getr rfl e (fun v2 e => ?_)
  refine xo_aload_nQ (w := l1) rfl rfl ?_
  refine d_nn e (fun v3 g e1 => ?_)
  subst g
  replace e := e1
  clear e1
  refine d_getr rfl e (fun v4 e => ?_)
  refine xo_iconstV (x := 0) rfl (by decide) ?_
  refine d_nn e (fun v5 g e1 => ?_)
  subst g
  replace e := e1
  clear e1
  refine d_aald rfl e (fun v6 e => ?_)
  refine d_nn e (fun v7 g e1 => ?_)
  subst g
  replace e := e1
  clear e1
  refine d_geti rfl e (fun v8 e => ?_)
  refine xo_bipushV (x := 8) rfl (by decide) ?_
  refine d_irem rfl e (fun e => ?_)
  refine d_nn e (fun v9 g e1 => ?_)
  subst g
  replace e := e1
  clear e1
  refine d_iald rfl e (fun v10 e => ?_)
  refine d_if_ne rfl rfl e (fun _ e => ?_) (fun _ e => ?_)
  · exact t93_31 e
  · exact t93_27 e
def b93_0 (F : Nat) (l0 : Option Nat) (l1 : Option Nat) : xm Int32 := mb (nn l1) fun v1 => mb (vc 4 v1) fun _ => mb (m94 F v1) fun v2 => if v2 = 0 then b93_33 F l0 (some v1) else b93_7 F l0 (some v1)
theorem t93_0 {sc : Nat × (Nat → Int32)} {F : Nat} {r : Int32} {h' : xv_H} {l0 : Option Nat} {l1 : Option Nat} {d2 : Option Value} {h : xv_H} (e : b93_0 F l0 l1 h = some (r, h')) : xx sc 93 0 [some (va_rf l0), some (va_rf l1), d2] [] h (fun v g => v = some (.int r) ∧ g = h') := by
  unfold b93_0 at e
  refine xo_aload_nQ (w := l1) rfl rfl ?_
  refine d_nn e (fun v1 g e1 => ?_)
  subst g
  replace e := e1
  clear e1
  refine d_virtual_i (av := []) (rest := []) rfl ⟨by decide, by decide⟩ rfl rfl (by simp [xv_fit, va_rf_cat, cat_int, cat_long, cat_ref, cat_null, show xt_mx 94 = 1 from rfl, show xt_lg 94 = [] from rfl]) (by simp [xv_room, va_rf_cat, cat_int, cat_long, cat_ref, cat_null]) (fun x0 h1 e1 => t94 e1) e (fun v2 h e => ?_)
  refine d_if_eq rfl rfl e (fun _ e => ?_) (fun _ e => ?_)
  · exact t93_33 e
  · exact t93_7 e
def m93 (F : Nat) (this : Nat) (p0 : Option Nat) : xm Int32 := b93_0 F (some this) p0
theorem t93 {sc : Nat × (Nat → Int32)} {F : Nat} {this : Nat} {p0 : Option Nat} {h : xv_H} {r : Int32} {h' : xv_H} (e : m93 F this p0 h = some (r, h')) : xr sc 93 [.ref this, va_rf p0] h (fun v g => v = some (.int r) ∧ g = h') := by
  have e0 : xv_ent (xt_mx 93) [.ref this, va_rf p0] = [some (va_rf (some this)), some (va_rf p0), none] := by simp [xv_ent, xv_sl, va_rf_cat, cat_int, cat_long, cat_ref, cat_null, va_rf_some, show xt_mx 93 = 3 from rfl]
  unfold xr
  rw [e0]
  exact t93_0 e
-- CellTree$MemoryNode.sightFor(LCellTree$Transaction;)LCellTree$Cell;
def b97_28 (F : Nat) (s0 : Option Nat) : xm (Option Nat) := mr s0
theorem t97_28 {sc : Nat × (Nat → Int32)} {F : Nat} {r : Option Nat} {h' : xv_H} {s0 : Option Nat} {d0 d1 : Option Value} {h : xv_H} (e : b97_28 F s0 h = some (r, h')) : xx sc 97 28 [d0, d1] [va_rf s0] h (fun v g => v = some (va_rf r) ∧ g = h') := by
  unfold b97_28 at e
  exact d_aret rfl e
def b97_27 (F : Nat) : xm (Option Nat) := b97_28 F none
theorem t97_27 {sc : Nat × (Nat → Int32)} {F : Nat} {r : Option Nat} {h' : xv_H} {d0 d1 : Option Value} {h : xv_H} (e : b97_27 F h = some (r, h')) : xx sc 97 27 [d0, d1] [] h (fun v g => v = some (va_rf r) ∧ g = h') := by
  unfold b97_27 at e
  refine xo_nullV rfl ?_
  exact t97_28 e
def b97_7 (F : Nat) (l0 : Option Nat) (l1 : Option Nat) : xm (Option Nat) := mb (nn l0) fun v1 => mb (gr 301 v1) fun v2 => mb (nn l1) fun v3 => mb (gr 401 v3) fun v4 => mb (nn v4) fun v5 => mb (lr 107 v5 (0 : Int32)) fun v6 => mb (nn v6) fun v7 => mb (gi 501 v7) fun v8 => mb (dz (8 : Int32)) fun _ => mb (nn v2) fun v9 => mb (lr 108 v9 (v8 - v8 / (8 : Int32) * (8 : Int32))) fun v10 => b97_28 F v10
theorem t97_7 {sc : Nat × (Nat → Int32)} {F : Nat} {r : Option Nat} {h' : xv_H} {l0 : Option Nat} {l1 : Option Nat} {h : xv_H} (e : b97_7 F l0 l1 h = some (r, h')) : xx sc 97 7 [some (va_rf l0), some (va_rf l1)] [] h (fun v g => v = some (va_rf r) ∧ g = h') := by
  unfold b97_7 at e
  refine xo_aload_nQ (w := l0) rfl rfl ?_
  refine d_nn e (fun v1 g e1 => ?_)
  subst g
  replace e := e1
  clear e1
  refine d_getr rfl e (fun v2 e => ?_)
  refine xo_aload_nQ (w := l1) rfl rfl ?_
  refine d_nn e (fun v3 g e1 => ?_)
  subst g
  replace e := e1
  clear e1
  refine d_getr rfl e (fun v4 e => ?_)
  refine xo_iconstV (x := 0) rfl (by decide) ?_
  refine d_nn e (fun v5 g e1 => ?_)
  subst g
  replace e := e1
  clear e1
  refine d_aald rfl e (fun v6 e => ?_)
  refine d_nn e (fun v7 g e1 => ?_)
  subst g
  replace e := e1
  clear e1
  refine d_geti rfl e (fun v8 e => ?_)
  refine xo_bipushV (x := 8) rfl (by decide) ?_
  refine d_irem rfl e (fun e => ?_)
  refine d_nn e (fun v9 g e1 => ?_)
  subst g
  replace e := e1
  clear e1
  refine d_aald rfl e (fun v10 e => ?_)
  refine xo_goto rfl rfl ?_
  exact t97_28 e
def b97_0 (F : Nat) (l0 : Option Nat) (l1 : Option Nat) : xm (Option Nat) := mb (nn l1) fun v1 => mb (vc 4 v1) fun _ => mb (m94 F v1) fun v2 => if v2 = 0 then b97_27 F else b97_7 F l0 (some v1)
theorem t97_0 {sc : Nat × (Nat → Int32)} {F : Nat} {r : Option Nat} {h' : xv_H} {l0 : Option Nat} {l1 : Option Nat} {h : xv_H} (e : b97_0 F l0 l1 h = some (r, h')) : xx sc 97 0 [some (va_rf l0), some (va_rf l1)] [] h (fun v g => v = some (va_rf r) ∧ g = h') := by
  unfold b97_0 at e
  refine xo_aload_nQ (w := l1) rfl rfl ?_
  refine d_nn e (fun v1 g e1 => ?_)
  subst g
  replace e := e1
  clear e1
  refine d_virtual_i (av := []) (rest := []) rfl ⟨by decide, by decide⟩ rfl rfl (by simp [xv_fit, va_rf_cat, cat_int, cat_long, cat_ref, cat_null, show xt_mx 94 = 1 from rfl, show xt_lg 94 = [] from rfl]) (by simp [xv_room, va_rf_cat, cat_int, cat_long, cat_ref, cat_null]) (fun x0 h1 e1 => t94 e1) e (fun v2 h e => ?_)
  refine d_if_eq rfl rfl e (fun _ e => ?_) (fun _ e => ?_)
  · exact t97_27 e
  · exact t97_7 e
def m97 (F : Nat) (this : Nat) (p0 : Option Nat) : xm (Option Nat) := b97_0 F (some this) p0
theorem t97 {sc : Nat × (Nat → Int32)} {F : Nat} {this : Nat} {p0 : Option Nat} {h : xv_H} {r : Option Nat} {h' : xv_H} (e : m97 F this p0 h = some (r, h')) : xr sc 97 [.ref this, va_rf p0] h (fun v g => v = some (va_rf r) ∧ g = h') := by
  have e0 : xv_ent (xt_mx 97) [.ref this, va_rf p0] = [some (va_rf (some this)), some (va_rf p0)] := by simp [xv_ent, xv_sl, va_rf_cat, cat_int, cat_long, cat_ref, cat_null, va_rf_some, show xt_mx 97 = 2 from rfl]
  unfold xr
  rw [e0]
  exact t97_0 e
