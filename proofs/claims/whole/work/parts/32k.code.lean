-- CellTreeModel.splitLeaf(IIJIII)V
def b168_116 (F : Nat) (s0 : Int32) (s1 : Option Nat) (l0 : Option Nat) (l1 : Int32) (l2 : Int32) (l5 : Int32) (l6 : Int32) (l7 : Int32) (l8 : Int32) (l9 : Int64) (l11 : Int64) (l13 : Int32) (l14 : Int32) (l15 : Int32) : xm Unit := mb (nn s1) fun v1 => mb (vc 9 v1) fun _ => mb (m156 F v1 s0 l14 l2 l9 l5 (0 : Int32) (0 : Int32)) fun _ => mb (nn l0) fun v2 => mb (vc 9 v2) fun _ => mb (m156 F v2 (4 : Int32) l15 (0 : Int32) l11 l6 l7 (0 : Int32)) fun _ => mb (vc 9 v2) fun _ => mb (m157 F v2 l1 l13 l8 l14 l15 l2) fun _ => mr ()
theorem t168_116 {sc : Nat × (Nat → Int32)} {F : Nat} {r : Unit} {h' : xv_H} {s0 : Int32} {s1 : Option Nat} {l0 : Option Nat} {l1 : Int32} {l2 : Int32} {l5 : Int32} {l6 : Int32} {l7 : Int32} {l8 : Int32} {l9 : Int64} {l11 : Int64} {l13 : Int32} {l14 : Int32} {l15 : Int32} {d3 d4 d10 d12 : Option Value} {h : xv_H} (e : b168_116 F s0 s1 l0 l1 l2 l5 l6 l7 l8 l9 l11 l13 l14 l15 h = some (r, h')) : xx sc 168 116 [some (va_rf l0), some (.int l1), some (.int l2), d3, d4, some (.int l5), some (.int l6), some (.int l7), some (.int l8), some (.long l9), d10, some (.long l11), d12, some (.int l13), some (.int l14), some (.int l15)] [.int s0, va_rf s1] h (fun v g => v = none ∧ g = h') := by
  unfold b168_116 at e
  refine xo_iload rfl rfl ?_
  refine xo_iload_n rfl rfl ?_
  refine xo_lload rfl rfl ?_
  refine xo_iload rfl rfl ?_
  refine xo_iconstV (x := 0) rfl (by decide) ?_
  refine xo_iconstV (x := 0) rfl (by decide) ?_
  refine d_nn e (fun v1 g e1 => ?_)
  subst g
  replace e := e1
  clear e1
  refine d_virtual_v (av := [.int s0, .int l14, .int l2, .long l9, .int l5, .int (0 : Int32), .int (0 : Int32)]) (rest := []) rfl ⟨by decide, by decide⟩ rfl rfl (by simp [xv_fit, va_rf_cat, cat_int, cat_long, cat_ref, cat_null, show xt_mx 156 = 9 from rfl, show xt_lg 156 = [4] from rfl]) (by simp [xv_room, va_rf_cat, cat_int, cat_long, cat_ref, cat_null]) (fun x0 h1 e1 => t156 e1) e (fun _ h e => ?_)
  refine xo_aload_nQ (w := l0) rfl rfl ?_
  refine xo_iconstV (x := 4) rfl (by decide) ?_
  refine xo_iload rfl rfl ?_
  refine xo_iconstV (x := 0) rfl (by decide) ?_
  refine xo_lload rfl rfl ?_
  refine xo_iload rfl rfl ?_
  refine xo_iload rfl rfl ?_
  refine xo_iconstV (x := 0) rfl (by decide) ?_
  refine d_nn e (fun v2 g e1 => ?_)
  subst g
  replace e := e1
  clear e1
  refine d_virtual_v (av := [.int (4 : Int32), .int l15, .int (0 : Int32), .long l11, .int l6, .int l7, .int (0 : Int32)]) (rest := []) rfl ⟨by decide, by decide⟩ rfl rfl (by simp [xv_fit, va_rf_cat, cat_int, cat_long, cat_ref, cat_null, show xt_mx 156 = 9 from rfl, show xt_lg 156 = [4] from rfl]) (by simp [xv_room, va_rf_cat, cat_int, cat_long, cat_ref, cat_null]) (fun x0 h1 e1 => t156 e1) e (fun _ h e => ?_)
  refine xo_aload_nQ (w := (some v2)) rfl rfl ?_
  refine xo_iload_n rfl rfl ?_
  refine xo_iload rfl rfl ?_
  refine xo_iload rfl rfl ?_
  refine xo_iload rfl rfl ?_
  refine xo_iload rfl rfl ?_
  refine xo_iload_n rfl rfl ?_
  refine d_virtual_v (av := [.int l1, .int l13, .int l8, .int l14, .int l15, .int l2]) (rest := []) rfl ⟨by decide, by decide⟩ rfl rfl (by simp [xv_fit, va_rf_cat, cat_int, cat_long, cat_ref, cat_null, show xt_mx 157 = 9 from rfl, show xt_lg 157 = [7] from rfl]) (by simp [xv_room, va_rf_cat, cat_int, cat_long, cat_ref, cat_null]) (fun x0 h1 e1 => t157 e1) e (fun _ h e => ?_)
  exact d_ret rfl e
def b168_115 (F : Nat) (s0 : Option Nat) (l0 : Option Nat) (l1 : Int32) (l2 : Int32) (l5 : Int32) (l6 : Int32) (l7 : Int32) (l8 : Int32) (l9 : Int64) (l11 : Int64) (l13 : Int32) (l14 : Int32) (l15 : Int32) : xm Unit := b168_116 F (3 : Int32) s0 l0 l1 l2 l5 l6 l7 l8 l9 l11 l13 l14 l15
theorem t168_115 {sc : Nat × (Nat → Int32)} {F : Nat} {r : Unit} {h' : xv_H} {s0 : Option Nat} {l0 : Option Nat} {l1 : Int32} {l2 : Int32} {l5 : Int32} {l6 : Int32} {l7 : Int32} {l8 : Int32} {l9 : Int64} {l11 : Int64} {l13 : Int32} {l14 : Int32} {l15 : Int32} {d3 d4 d10 d12 : Option Value} {h : xv_H} (e : b168_115 F s0 l0 l1 l2 l5 l6 l7 l8 l9 l11 l13 l14 l15 h = some (r, h')) : xx sc 168 115 [some (va_rf l0), some (.int l1), some (.int l2), d3, d4, some (.int l5), some (.int l6), some (.int l7), some (.int l8), some (.long l9), d10, some (.long l11), d12, some (.int l13), some (.int l14), some (.int l15)] [va_rf s0] h (fun v g => v = none ∧ g = h') := by
  unfold b168_115 at e
  refine xo_iconstV (x := 3) rfl (by decide) ?_
  exact t168_116 e
def b168_111 (F : Nat) (s0 : Option Nat) (l0 : Option Nat) (l1 : Int32) (l2 : Int32) (l5 : Int32) (l6 : Int32) (l7 : Int32) (l8 : Int32) (l9 : Int64) (l11 : Int64) (l13 : Int32) (l14 : Int32) (l15 : Int32) : xm Unit := b168_116 F (4 : Int32) s0 l0 l1 l2 l5 l6 l7 l8 l9 l11 l13 l14 l15
theorem t168_111 {sc : Nat × (Nat → Int32)} {F : Nat} {r : Unit} {h' : xv_H} {s0 : Option Nat} {l0 : Option Nat} {l1 : Int32} {l2 : Int32} {l5 : Int32} {l6 : Int32} {l7 : Int32} {l8 : Int32} {l9 : Int64} {l11 : Int64} {l13 : Int32} {l14 : Int32} {l15 : Int32} {d3 d4 d10 d12 : Option Value} {h : xv_H} (e : b168_111 F s0 l0 l1 l2 l5 l6 l7 l8 l9 l11 l13 l14 l15 h = some (r, h')) : xx sc 168 111 [some (va_rf l0), some (.int l1), some (.int l2), d3, d4, some (.int l5), some (.int l6), some (.int l7), some (.int l8), some (.long l9), d10, some (.long l11), d12, some (.int l13), some (.int l14), some (.int l15)] [va_rf s0] h (fun v g => v = none ∧ g = h') := by
  unfold b168_111 at e
  refine xo_iconstV (x := 4) rfl (by decide) ?_
  refine xo_goto rfl rfl ?_
  exact t168_116 e
def b168_96 (F : Nat) (s0 : Int32) (l0 : Option Nat) (l1 : Int32) (l2 : Int32) (l5 : Int32) (l6 : Int32) (l7 : Int32) (l8 : Int32) (l9 : Int64) (l11 : Int64) (l13 : Int32) : xm Unit := mb (nn l0) fun v1 => mb (vc 9 v1) fun _ => mb (m155 F v1 l1) fun v2 => if l13 = 0 then b168_115 F (some v1) (some v1) l1 l2 l5 l6 l7 l8 l9 l11 l13 s0 v2 else b168_111 F (some v1) (some v1) l1 l2 l5 l6 l7 l8 l9 l11 l13 s0 v2
theorem t168_96 {sc : Nat × (Nat → Int32)} {F : Nat} {r : Unit} {h' : xv_H} {s0 : Int32} {l0 : Option Nat} {l1 : Int32} {l2 : Int32} {l5 : Int32} {l6 : Int32} {l7 : Int32} {l8 : Int32} {l9 : Int64} {l11 : Int64} {l13 : Int32} {d3 d4 d10 d12 d14 d15 : Option Value} {h : xv_H} (e : b168_96 F s0 l0 l1 l2 l5 l6 l7 l8 l9 l11 l13 h = some (r, h')) : xx sc 168 96 [some (va_rf l0), some (.int l1), some (.int l2), d3, d4, some (.int l5), some (.int l6), some (.int l7), some (.int l8), some (.long l9), d10, some (.long l11), d12, some (.int l13), d14, d15] [.int s0] h (fun v g => v = none ∧ g = h') := by
  unfold b168_96 at e
  refine xo_istore rfl (Nat.le_of_ble_eq_true rfl) rfl ?_
  refine xo_aload_nQ (w := l0) rfl rfl ?_
  refine xo_iload_n rfl rfl ?_
  refine d_nn e (fun v1 g e1 => ?_)
  subst g
  replace e := e1
  clear e1
  refine d_virtual_i (av := [.int l1]) (rest := []) rfl ⟨by decide, by decide⟩ rfl rfl (by simp [xv_fit, va_rf_cat, cat_int, cat_long, cat_ref, cat_null, show xt_mx 155 = 3 from rfl, show xt_lg 155 = [] from rfl]) (by simp [xv_room, va_rf_cat, cat_int, cat_long, cat_ref, cat_null]) (fun x0 h1 e1 => t155 e1) e (fun v2 h e => ?_)
  refine xo_istore rfl (Nat.le_of_ble_eq_true rfl) rfl ?_
  refine xo_aload_nQ (w := (some v1)) rfl rfl ?_
  refine xo_iload rfl rfl ?_
  refine d_if_eq rfl rfl e (fun _ e => ?_) (fun _ e => ?_)
  · exact t168_115 e
  · exact t168_111 e
def b168_91 (F : Nat) (l0 : Option Nat) (l1 : Int32) (l2 : Int32) (l5 : Int32) (l6 : Int32) (l7 : Int32) (l8 : Int32) (l9 : Int64) (l11 : Int64) (l13 : Int32) : xm Unit := mb (nn l0) fun v1 => mb (vc 9 v1) fun _ => mb (m145 F v1 l1) fun v2 => b168_96 F v2 (some v1) l1 l2 l5 l6 l7 l8 l9 l11 l13
theorem t168_91 {sc : Nat × (Nat → Int32)} {F : Nat} {r : Unit} {h' : xv_H} {l0 : Option Nat} {l1 : Int32} {l2 : Int32} {l5 : Int32} {l6 : Int32} {l7 : Int32} {l8 : Int32} {l9 : Int64} {l11 : Int64} {l13 : Int32} {d3 d4 d10 d12 d14 d15 : Option Value} {h : xv_H} (e : b168_91 F l0 l1 l2 l5 l6 l7 l8 l9 l11 l13 h = some (r, h')) : xx sc 168 91 [some (va_rf l0), some (.int l1), some (.int l2), d3, d4, some (.int l5), some (.int l6), some (.int l7), some (.int l8), some (.long l9), d10, some (.long l11), d12, some (.int l13), d14, d15] [] h (fun v g => v = none ∧ g = h') := by
  unfold b168_91 at e
  refine xo_aload_nQ (w := l0) rfl rfl ?_
  refine xo_iload_n rfl rfl ?_
  refine d_nn e (fun v1 g e1 => ?_)
  subst g
  replace e := e1
  clear e1
  refine d_virtual_i (av := [.int l1]) (rest := []) rfl ⟨by decide, by decide⟩ rfl rfl (by simp [xv_fit, va_rf_cat, cat_int, cat_long, cat_ref, cat_null, show xt_mx 145 = 2 from rfl, show xt_lg 145 = [] from rfl]) (by simp [xv_room, va_rf_cat, cat_int, cat_long, cat_ref, cat_null]) (fun x0 h1 e1 => t145 e1) e (fun v2 h e => ?_)
  exact t168_96 e
def b168_83 (F : Nat) (l0 : Option Nat) (l1 : Int32) (l2 : Int32) (l5 : Int32) (l6 : Int32) (l7 : Int32) (l8 : Int32) (l9 : Int64) (l11 : Int64) (l13 : Int32) : xm Unit := mb (nn l0) fun v1 => mb (vc 9 v1) fun _ => mb (m155 F v1 l1) fun v2 => b168_96 F v2 (some v1) l1 l2 l5 l6 l7 l8 l9 l11 l13
theorem t168_83 {sc : Nat × (Nat → Int32)} {F : Nat} {r : Unit} {h' : xv_H} {l0 : Option Nat} {l1 : Int32} {l2 : Int32} {l5 : Int32} {l6 : Int32} {l7 : Int32} {l8 : Int32} {l9 : Int64} {l11 : Int64} {l13 : Int32} {d3 d4 d10 d12 d14 d15 : Option Value} {h : xv_H} (e : b168_83 F l0 l1 l2 l5 l6 l7 l8 l9 l11 l13 h = some (r, h')) : xx sc 168 83 [some (va_rf l0), some (.int l1), some (.int l2), d3, d4, some (.int l5), some (.int l6), some (.int l7), some (.int l8), some (.long l9), d10, some (.long l11), d12, some (.int l13), d14, d15] [] h (fun v g => v = none ∧ g = h') := by
  unfold b168_83 at e
  refine xo_aload_nQ (w := l0) rfl rfl ?_
  refine xo_iload_n rfl rfl ?_
  refine d_nn e (fun v1 g e1 => ?_)
  subst g
  replace e := e1
  clear e1
  refine d_virtual_i (av := [.int l1]) (rest := []) rfl ⟨by decide, by decide⟩ rfl rfl (by simp [xv_fit, va_rf_cat, cat_int, cat_long, cat_ref, cat_null, show xt_mx 155 = 3 from rfl, show xt_lg 155 = [] from rfl]) (by simp [xv_room, va_rf_cat, cat_int, cat_long, cat_ref, cat_null]) (fun x0 h1 e1 => t155 e1) e (fun v2 h e => ?_)
  refine xo_goto rfl rfl ?_
  exact t168_96 e
def b168_76 (F : Nat) (s0 : Int32) (l0 : Option Nat) (l1 : Int32) (l2 : Int32) (l5 : Int32) (l6 : Int32) (l7 : Int32) (l8 : Int32) (l9 : Int64) (l11 : Int64) : xm Unit := if s0 = 0 then b168_91 F l0 l1 l2 l5 l6 l7 l8 l9 l11 s0 else b168_83 F l0 l1 l2 l5 l6 l7 l8 l9 l11 s0
theorem t168_76 {sc : Nat × (Nat → Int32)} {F : Nat} {r : Unit} {h' : xv_H} {s0 : Int32} {l0 : Option Nat} {l1 : Int32} {l2 : Int32} {l5 : Int32} {l6 : Int32} {l7 : Int32} {l8 : Int32} {l9 : Int64} {l11 : Int64} {d3 d4 d10 d12 d13 d14 d15 : Option Value} {h : xv_H} (e : b168_76 F s0 l0 l1 l2 l5 l6 l7 l8 l9 l11 h = some (r, h')) : xx sc 168 76 [some (va_rf l0), some (.int l1), some (.int l2), d3, d4, some (.int l5), some (.int l6), some (.int l7), some (.int l8), some (.long l9), d10, some (.long l11), d12, d13, d14, d15] [.int s0] h (fun v g => v = none ∧ g = h') := by
  unfold b168_76 at e
  refine xo_istore rfl (Nat.le_of_ble_eq_true rfl) rfl ?_
  refine xo_iload rfl rfl ?_
  refine d_if_eq rfl rfl e (fun _ e => ?_) (fun _ e => ?_)
  · exact t168_91 e
  · exact t168_83 e
def b168_75 (F : Nat) (l0 : Option Nat) (l1 : Int32) (l2 : Int32) (l5 : Int32) (l6 : Int32) (l7 : Int32) (l8 : Int32) (l9 : Int64) (l11 : Int64) : xm Unit := b168_76 F (0 : Int32) l0 l1 l2 l5 l6 l7 l8 l9 l11
theorem t168_75 {sc : Nat × (Nat → Int32)} {F : Nat} {r : Unit} {h' : xv_H} {l0 : Option Nat} {l1 : Int32} {l2 : Int32} {l5 : Int32} {l6 : Int32} {l7 : Int32} {l8 : Int32} {l9 : Int64} {l11 : Int64} {d3 d4 d10 d12 d13 d14 d15 : Option Value} {h : xv_H} (e : b168_75 F l0 l1 l2 l5 l6 l7 l8 l9 l11 h = some (r, h')) : xx sc 168 75 [some (va_rf l0), some (.int l1), some (.int l2), d3, d4, some (.int l5), some (.int l6), some (.int l7), some (.int l8), some (.long l9), d10, some (.long l11), d12, d13, d14, d15] [] h (fun v g => v = none ∧ g = h') := by
  unfold b168_75 at e
  refine xo_iconstV (x := 0) rfl (by decide) ?_
  exact t168_76 e
def b168_71 (F : Nat) (l0 : Option Nat) (l1 : Int32) (l2 : Int32) (l5 : Int32) (l6 : Int32) (l7 : Int32) (l8 : Int32) (l9 : Int64) (l11 : Int64) : xm Unit := b168_76 F (1 : Int32) l0 l1 l2 l5 l6 l7 l8 l9 l11
theorem t168_71 {sc : Nat × (Nat → Int32)} {F : Nat} {r : Unit} {h' : xv_H} {l0 : Option Nat} {l1 : Int32} {l2 : Int32} {l5 : Int32} {l6 : Int32} {l7 : Int32} {l8 : Int32} {l9 : Int64} {l11 : Int64} {d3 d4 d10 d12 d13 d14 d15 : Option Value} {h : xv_H} (e : b168_71 F l0 l1 l2 l5 l6 l7 l8 l9 l11 h = some (r, h')) : xx sc 168 71 [some (va_rf l0), some (.int l1), some (.int l2), d3, d4, some (.int l5), some (.int l6), some (.int l7), some (.int l8), some (.long l9), d10, some (.long l11), d12, d13, d14, d15] [] h (fun v g => v = none ∧ g = h') := by
  unfold b168_71 at e
  refine xo_iconstV (x := 1) rfl (by decide) ?_
  refine xo_goto rfl rfl ?_
  exact t168_76 e
def b168_0 (F : Nat) (l0 : Option Nat) (l1 : Int32) (l2 : Int32) (l3 : Int64) (l5 : Int32) (l6 : Int32) (l7 : Int32) : xm Unit := mb (m148 F l3 (1 : Int32)) fun v1 => mb (m149 F l3) fun v2 => mb (m124 F (1 : Int32) v2 v1) fun v3 => mb (m148 F l3 (0 : Int32)) fun v4 => mb (m150 F v3 (0 : Int32) v4) fun v5 => mb (m151 F v5 (1 : Int32)) fun v6 => mb (m154 F l3) fun v7 => mb (m124 F (1 : Int32) v1 v7) fun v8 => mb (m150 F v8 (0 : Int32) v1) fun v9 => mb (m148 F l3 (2 : Int32)) fun v10 => mb (m150 F v9 (1 : Int32) v10) fun v11 => mb (m151 F v11 (2 : Int32)) fun v12 => mb (nn l0) fun v13 => mb (vc 9 v13) fun _ => mb (m145 F v13 l1) fun v14 => if ¬ v14 = 0 then b168_75 F (some v13) l1 l2 l5 l6 l7 v1 v6 v12 else b168_71 F (some v13) l1 l2 l5 l6 l7 v1 v6 v12
theorem t168_0 {sc : Nat × (Nat → Int32)} {F : Nat} {r : Unit} {h' : xv_H} {l0 : Option Nat} {l1 : Int32} {l2 : Int32} {l3 : Int64} {l5 : Int32} {l6 : Int32} {l7 : Int32} {d4 d8 d9 d10 d11 d12 d13 d14 d15 : Option Value} {h : xv_H} (e : b168_0 F l0 l1 l2 l3 l5 l6 l7 h = some (r, h')) : xx sc 168 0 [some (va_rf l0), some (.int l1), some (.int l2), some (.long l3), d4, some (.int l5), some (.int l6), some (.int l7), d8, d9, d10, d11, d12, d13, d14, d15] [] h (fun v g => v = none ∧ g = h') := by
  unfold b168_0 at e
  refine xo_lload_n rfl rfl ?_
  refine xo_iconstV (x := 1) rfl (by decide) ?_
  refine d_static_i (av := [.long l3, .int (1 : Int32)]) (rest := []) rfl ⟨by decide, by decide, by decide⟩ rfl rfl (by simp [xv_fit, va_rf_cat, cat_int, cat_long, cat_ref, cat_null, show xt_mx 148 = 3 from rfl, show xt_lg 148 = [0] from rfl]) (by simp [xv_room, va_rf_cat, cat_int, cat_long, cat_ref, cat_null]) (fun x0 h1 e1 => t148 e1) e (fun v1 h e => ?_)
  refine xo_istore rfl (Nat.le_of_ble_eq_true rfl) rfl ?_
  refine xo_iconstV (x := 1) rfl (by decide) ?_
  refine xo_lload_n rfl rfl ?_
  refine d_static_i (av := [.long l3]) (rest := [.int (1 : Int32)]) rfl ⟨by decide, by decide, by decide⟩ rfl rfl (by simp [xv_fit, va_rf_cat, cat_int, cat_long, cat_ref, cat_null, show xt_mx 149 = 2 from rfl, show xt_lg 149 = [0] from rfl]) (by simp [xv_room, va_rf_cat, cat_int, cat_long, cat_ref, cat_null]) (fun x0 h1 e1 => t149 e1) e (fun v2 h e => ?_)
  refine xo_iload rfl rfl ?_
  refine d_static_l (av := [.int (1 : Int32), .int v2, .int v1]) (rest := []) rfl ⟨by decide, by decide, by decide⟩ rfl rfl (by simp [xv_fit, va_rf_cat, cat_int, cat_long, cat_ref, cat_null, show xt_mx 124 = 3 from rfl, show xt_lg 124 = [] from rfl]) (by simp [xv_room, va_rf_cat, cat_int, cat_long, cat_ref, cat_null]) (fun x0 h1 e1 => t124 e1) e (fun v3 h e => ?_)
  refine xo_iconstV (x := 0) rfl (by decide) ?_
  refine xo_lload_n rfl rfl ?_
  refine xo_iconstV (x := 0) rfl (by decide) ?_
  refine d_static_i (av := [.long l3, .int (0 : Int32)]) (rest := [.int (0 : Int32), .long v3]) rfl ⟨by decide, by decide, by decide⟩ rfl rfl (by simp [xv_fit, va_rf_cat, cat_int, cat_long, cat_ref, cat_null, show xt_mx 148 = 3 from rfl, show xt_lg 148 = [0] from rfl]) (by simp [xv_room, va_rf_cat, cat_int, cat_long, cat_ref, cat_null]) (fun x0 h1 e1 => t148 e1) e (fun v4 h e => ?_)
  refine d_static_l (av := [.long v3, .int (0 : Int32), .int v4]) (rest := []) rfl ⟨by decide, by decide, by decide⟩ rfl rfl (by simp [xv_fit, va_rf_cat, cat_int, cat_long, cat_ref, cat_null, show xt_mx 150 = 4 from rfl, show xt_lg 150 = [0] from rfl]) (by simp [xv_room, va_rf_cat, cat_int, cat_long, cat_ref, cat_null]) (fun x0 h1 e1 => t150 e1) e (fun v5 h e => ?_)
  refine xo_iconstV (x := 1) rfl (by decide) ?_
  refine d_static_l (av := [.long v5, .int (1 : Int32)]) (rest := []) rfl ⟨by decide, by decide, by decide⟩ rfl rfl (by simp [xv_fit, va_rf_cat, cat_int, cat_long, cat_ref, cat_null, show xt_mx 151 = 3 from rfl, show xt_lg 151 = [0] from rfl]) (by simp [xv_room, va_rf_cat, cat_int, cat_long, cat_ref, cat_null]) (fun x0 h1 e1 => t151 e1) e (fun v6 h e => ?_)
  refine xo_lstore rfl (Nat.le_of_ble_eq_true rfl) rfl rfl ?_
  refine xo_iconstV (x := 1) rfl (by decide) ?_
  refine xo_iload rfl rfl ?_
  refine xo_lload_n rfl rfl ?_
  refine d_static_i (av := [.long l3]) (rest := [.int v1, .int (1 : Int32)]) rfl ⟨by decide, by decide, by decide⟩ rfl rfl (by simp [xv_fit, va_rf_cat, cat_int, cat_long, cat_ref, cat_null, show xt_mx 154 = 2 from rfl, show xt_lg 154 = [0] from rfl]) (by simp [xv_room, va_rf_cat, cat_int, cat_long, cat_ref, cat_null]) (fun x0 h1 e1 => t154 e1) e (fun v7 h e => ?_)
  refine d_static_l (av := [.int (1 : Int32), .int v1, .int v7]) (rest := []) rfl ⟨by decide, by decide, by decide⟩ rfl rfl (by simp [xv_fit, va_rf_cat, cat_int, cat_long, cat_ref, cat_null, show xt_mx 124 = 3 from rfl, show xt_lg 124 = [] from rfl]) (by simp [xv_room, va_rf_cat, cat_int, cat_long, cat_ref, cat_null]) (fun x0 h1 e1 => t124 e1) e (fun v8 h e => ?_)
  refine xo_iconstV (x := 0) rfl (by decide) ?_
  refine xo_iload rfl rfl ?_
  refine d_static_l (av := [.long v8, .int (0 : Int32), .int v1]) (rest := []) rfl ⟨by decide, by decide, by decide⟩ rfl rfl (by simp [xv_fit, va_rf_cat, cat_int, cat_long, cat_ref, cat_null, show xt_mx 150 = 4 from rfl, show xt_lg 150 = [0] from rfl]) (by simp [xv_room, va_rf_cat, cat_int, cat_long, cat_ref, cat_null]) (fun x0 h1 e1 => t150 e1) e (fun v9 h e => ?_)
  refine xo_iconstV (x := 1) rfl (by decide) ?_
  refine xo_lload_n rfl rfl ?_
  refine xo_iconstV (x := 2) rfl (by decide) ?_
  refine d_static_i (av := [.long l3, .int (2 : Int32)]) (rest := [.int (1 : Int32), .long v9]) rfl ⟨by decide, by decide, by decide⟩ rfl rfl (by simp [xv_fit, va_rf_cat, cat_int, cat_long, cat_ref, cat_null, show xt_mx 148 = 3 from rfl, show xt_lg 148 = [0] from rfl]) (by simp [xv_room, va_rf_cat, cat_int, cat_long, cat_ref, cat_null]) (fun x0 h1 e1 => t148 e1) e (fun v10 h e => ?_)
  refine d_static_l (av := [.long v9, .int (1 : Int32), .int v10]) (rest := []) rfl ⟨by decide, by decide, by decide⟩ rfl rfl (by simp [xv_fit, va_rf_cat, cat_int, cat_long, cat_ref, cat_null, show xt_mx 150 = 4 from rfl, show xt_lg 150 = [0] from rfl]) (by simp [xv_room, va_rf_cat, cat_int, cat_long, cat_ref, cat_null]) (fun x0 h1 e1 => t150 e1) e (fun v11 h e => ?_)
  refine xo_iconstV (x := 2) rfl (by decide) ?_
  refine d_static_l (av := [.long v11, .int (2 : Int32)]) (rest := []) rfl ⟨by decide, by decide, by decide⟩ rfl rfl (by simp [xv_fit, va_rf_cat, cat_int, cat_long, cat_ref, cat_null, show xt_mx 151 = 3 from rfl, show xt_lg 151 = [0] from rfl]) (by simp [xv_room, va_rf_cat, cat_int, cat_long, cat_ref, cat_null]) (fun x0 h1 e1 => t151 e1) e (fun v12 h e => ?_)
  refine xo_lstore rfl (Nat.le_of_ble_eq_true rfl) rfl rfl ?_
  refine xo_aload_nQ (w := l0) rfl rfl ?_
  refine xo_iload_n rfl rfl ?_
  refine d_nn e (fun v13 g e1 => ?_)
  subst g
  replace e := e1
  clear e1
  refine d_virtual_i (av := [.int l1]) (rest := []) rfl ⟨by decide, by decide⟩ rfl rfl (by simp [xv_fit, va_rf_cat, cat_int, cat_long, cat_ref, cat_null, show xt_mx 145 = 2 from rfl, show xt_lg 145 = [] from rfl]) (by simp [xv_room, va_rf_cat, cat_int, cat_long, cat_ref, cat_null]) (fun x0 h1 e1 => t145 e1) e (fun v14 h e => ?_)
  refine d_if_ne rfl rfl e (fun _ e => ?_) (fun _ e => ?_)
  · exact t168_75 e
  · exact t168_71 e
def m168 (F : Nat) (this : Nat) (p0 : Int32) (p1 : Int32) (p2 : Int64) (p3 : Int32) (p4 : Int32) (p5 : Int32) : xm Unit := b168_0 F (some this) p0 p1 p2 p3 p4 p5
theorem t168 {sc : Nat × (Nat → Int32)} {F : Nat} {this : Nat} {p0 : Int32} {p1 : Int32} {p2 : Int64} {p3 : Int32} {p4 : Int32} {p5 : Int32} {h : xv_H} {r : Unit} {h' : xv_H} (e : m168 F this p0 p1 p2 p3 p4 p5 h = some (r, h')) : xr sc 168 [.ref this, .int p0, .int p1, .long p2, .int p3, .int p4, .int p5] h (fun v g => v = none ∧ g = h') := by
  have e0 : xv_ent (xt_mx 168) [.ref this, .int p0, .int p1, .long p2, .int p3, .int p4, .int p5] = [some (va_rf (some this)), some (.int p0), some (.int p1), some (.long p2), none, some (.int p3), some (.int p4), some (.int p5), none, none, none, none, none, none, none, none] := by simp [xv_ent, xv_sl, va_rf_cat, cat_int, cat_long, cat_ref, cat_null, va_rf_some, show xt_mx 168 = 16 from rfl]
  unfold xr
  rw [e0]
  exact t168_0 e
-- CellTreeModel.without(IIJIIII)V
def b169_80 (F : Nat) (s0 : Int32) (s1 : Int32) (s2 : Int64) (s3 : Int32) (s4 : Int32) (s5 : Int32) (s6 : Option Nat) : xm Unit := mb (nn s6) fun v1 => mb (vc 9 v1) fun _ => mb (m156 F v1 s5 s4 s3 s2 s1 s0 (0 : Int32)) fun _ => mr ()
theorem t169_80 {sc : Nat × (Nat → Int32)} {F : Nat} {r : Unit} {h' : xv_H} {s0 : Int32} {s1 : Int32} {s2 : Int64} {s3 : Int32} {s4 : Int32} {s5 : Int32} {s6 : Option Nat} {d0 d1 d2 d3 d4 d5 d6 d7 d8 d9 d10 d11 : Option Value} {h : xv_H} (e : b169_80 F s0 s1 s2 s3 s4 s5 s6 h = some (r, h')) : xx sc 169 80 [d0, d1, d2, d3, d4, d5, d6, d7, d8, d9, d10, d11] [.int s0, .int s1, .long s2, .int s3, .int s4, .int s5, va_rf s6] h (fun v g => v = none ∧ g = h') := by
  unfold b169_80 at e
  refine xo_iconstV (x := 0) rfl (by decide) ?_
  refine d_nn e (fun v1 g e1 => ?_)
  subst g
  replace e := e1
  clear e1
  refine d_virtual_v (av := [.int s5, .int s4, .int s3, .long s2, .int s1, .int s0, .int (0 : Int32)]) (rest := []) rfl ⟨by decide, by decide⟩ rfl rfl (by simp [xv_fit, va_rf_cat, cat_int, cat_long, cat_ref, cat_null, show xt_mx 156 = 9 from rfl, show xt_lg 156 = [4] from rfl]) (by simp [xv_room, va_rf_cat, cat_int, cat_long, cat_ref, cat_null]) (fun x0 h1 e1 => t156 e1) e (fun _ h e => ?_)
  exact d_ret rfl e
def b169_78 (F : Nat) (s0 : Int32) (s1 : Int64) (s2 : Int32) (s3 : Int32) (s4 : Int32) (s5 : Option Nat) (l7 : Int32) : xm Unit := b169_80 F l7 s0 s1 s2 s3 s4 s5
theorem t169_78 {sc : Nat × (Nat → Int32)} {F : Nat} {r : Unit} {h' : xv_H} {s0 : Int32} {s1 : Int64} {s2 : Int32} {s3 : Int32} {s4 : Int32} {s5 : Option Nat} {l7 : Int32} {d0 d1 d2 d3 d4 d5 d6 d8 d9 d10 d11 : Option Value} {h : xv_H} (e : b169_78 F s0 s1 s2 s3 s4 s5 l7 h = some (r, h')) : xx sc 169 78 [d0, d1, d2, d3, d4, d5, d6, some (.int l7), d8, d9, d10, d11] [.int s0, .long s1, .int s2, .int s3, .int s4, va_rf s5] h (fun v g => v = none ∧ g = h') := by
  unfold b169_78 at e
  refine xo_iload rfl rfl ?_
  exact t169_80 e
def b169_73 (F : Nat) (s0 : Int32) (s1 : Int64) (s2 : Int32) (s3 : Int32) (s4 : Int32) (s5 : Option Nat) (l8 : Int32) : xm Unit := b169_80 F l8 s0 s1 s2 s3 s4 s5
theorem t169_73 {sc : Nat × (Nat → Int32)} {F : Nat} {r : Unit} {h' : xv_H} {s0 : Int32} {s1 : Int64} {s2 : Int32} {s3 : Int32} {s4 : Int32} {s5 : Option Nat} {l8 : Int32} {d0 d1 d2 d3 d4 d5 d6 d7 d9 d10 d11 : Option Value} {h : xv_H} (e : b169_73 F s0 s1 s2 s3 s4 s5 l8 h = some (r, h')) : xx sc 169 73 [d0, d1, d2, d3, d4, d5, d6, d7, some (.int l8), d9, d10, d11] [.int s0, .long s1, .int s2, .int s3, .int s4, va_rf s5] h (fun v g => v = none ∧ g = h') := by
  unfold b169_73 at e
  refine xo_iload rfl rfl ?_
  refine xo_goto rfl rfl ?_
  exact t169_80 e
def b169_67 (F : Nat) (s0 : Int32) (s1 : Int64) (s2 : Int32) (s3 : Int32) (s4 : Int32) (s5 : Option Nat) (l5 : Int32) (l7 : Int32) (l8 : Int32) : xm Unit := if (1 : Int32) < l5 then b169_78 F s0 s1 s2 s3 s4 s5 l7 else b169_73 F s0 s1 s2 s3 s4 s5 l8
theorem t169_67 {sc : Nat × (Nat → Int32)} {F : Nat} {r : Unit} {h' : xv_H} {s0 : Int32} {s1 : Int64} {s2 : Int32} {s3 : Int32} {s4 : Int32} {s5 : Option Nat} {l5 : Int32} {l7 : Int32} {l8 : Int32} {d0 d1 d2 d3 d4 d6 d9 d10 d11 : Option Value} {h : xv_H} (e : b169_67 F s0 s1 s2 s3 s4 s5 l5 l7 l8 h = some (r, h')) : xx sc 169 67 [d0, d1, d2, d3, d4, some (.int l5), d6, some (.int l7), some (.int l8), d9, d10, d11] [.int s0, .long s1, .int s2, .int s3, .int s4, va_rf s5] h (fun v g => v = none ∧ g = h') := by
  unfold b169_67 at e
  refine xo_iload rfl rfl ?_
  refine xo_iconstV (x := 1) rfl (by decide) ?_
  refine d_icmp_gt rfl rfl e (fun _ e => ?_) (fun _ e => ?_)
  · exact t169_78 e
  · exact t169_73 e
def b169_65 (F : Nat) (s0 : Int64) (s1 : Int32) (s2 : Int32) (s3 : Int32) (s4 : Option Nat) (l5 : Int32) (l6 : Int32) (l7 : Int32) (l8 : Int32) : xm Unit := b169_67 F l6 s0 s1 s2 s3 s4 l5 l7 l8
theorem t169_65 {sc : Nat × (Nat → Int32)} {F : Nat} {r : Unit} {h' : xv_H} {s0 : Int64} {s1 : Int32} {s2 : Int32} {s3 : Int32} {s4 : Option Nat} {l5 : Int32} {l6 : Int32} {l7 : Int32} {l8 : Int32} {d0 d1 d2 d3 d4 d9 d10 d11 : Option Value} {h : xv_H} (e : b169_65 F s0 s1 s2 s3 s4 l5 l6 l7 l8 h = some (r, h')) : xx sc 169 65 [d0, d1, d2, d3, d4, some (.int l5), some (.int l6), some (.int l7), some (.int l8), d9, d10, d11] [.long s0, .int s1, .int s2, .int s3, va_rf s4] h (fun v g => v = none ∧ g = h') := by
  unfold b169_65 at e
  refine xo_iload rfl rfl ?_
  exact t169_67 e
def b169_60 (F : Nat) (s0 : Int64) (s1 : Int32) (s2 : Int32) (s3 : Int32) (s4 : Option Nat) (l5 : Int32) (l7 : Int32) (l8 : Int32) : xm Unit := b169_67 F l7 s0 s1 s2 s3 s4 l5 l7 l8
theorem t169_60 {sc : Nat × (Nat → Int32)} {F : Nat} {r : Unit} {h' : xv_H} {s0 : Int64} {s1 : Int32} {s2 : Int32} {s3 : Int32} {s4 : Option Nat} {l5 : Int32} {l7 : Int32} {l8 : Int32} {d0 d1 d2 d3 d4 d6 d9 d10 d11 : Option Value} {h : xv_H} (e : b169_60 F s0 s1 s2 s3 s4 l5 l7 l8 h = some (r, h')) : xx sc 169 60 [d0, d1, d2, d3, d4, some (.int l5), d6, some (.int l7), some (.int l8), d9, d10, d11] [.long s0, .int s1, .int s2, .int s3, va_rf s4] h (fun v g => v = none ∧ g = h') := by
  unfold b169_60 at e
  refine xo_iload rfl rfl ?_
  refine xo_goto rfl rfl ?_
  exact t169_67 e
def b169_45 (F : Nat) (l0 : Option Nat) (l1 : Int32) (l2 : Int32) (l5 : Int32) (l6 : Int32) (l7 : Int32) (l8 : Int32) (l9 : Int64) : xm Unit := mb (nn l0) fun v1 => mb (vc 9 v1) fun _ => mb (m145 F v1 l1) fun v2 => if ¬ l5 = 0 then b169_65 F l9 l2 v2 (3 : Int32) (some v1) l5 l6 l7 l8 else b169_60 F l9 l2 v2 (3 : Int32) (some v1) l5 l7 l8
theorem t169_45 {sc : Nat × (Nat → Int32)} {F : Nat} {r : Unit} {h' : xv_H} {l0 : Option Nat} {l1 : Int32} {l2 : Int32} {l5 : Int32} {l6 : Int32} {l7 : Int32} {l8 : Int32} {l9 : Int64} {d3 d4 d10 d11 : Option Value} {h : xv_H} (e : b169_45 F l0 l1 l2 l5 l6 l7 l8 l9 h = some (r, h')) : xx sc 169 45 [some (va_rf l0), some (.int l1), some (.int l2), d3, d4, some (.int l5), some (.int l6), some (.int l7), some (.int l8), some (.long l9), d10, d11] [] h (fun v g => v = none ∧ g = h') := by
  unfold b169_45 at e
  refine xo_aload_nQ (w := l0) rfl rfl ?_
  refine xo_iconstV (x := 3) rfl (by decide) ?_
  refine xo_aload_nQ (w := l0) rfl rfl ?_
  refine xo_iload_n rfl rfl ?_
  refine d_nn e (fun v1 g e1 => ?_)
  subst g
  replace e := e1
  clear e1
  refine d_virtual_i (av := [.int l1]) (rest := [.int (3 : Int32), va_rf (some v1)]) rfl ⟨by decide, by decide⟩ rfl rfl (by simp [xv_fit, va_rf_cat, cat_int, cat_long, cat_ref, cat_null, show xt_mx 145 = 2 from rfl, show xt_lg 145 = [] from rfl]) (by simp [xv_room, va_rf_cat, cat_int, cat_long, cat_ref, cat_null]) (fun x0 h1 e1 => t145 e1) e (fun v2 h e => ?_)
  refine xo_iload_n rfl rfl ?_
  refine xo_lload rfl rfl ?_
  refine xo_iload rfl rfl ?_
  refine d_if_ne rfl rfl e (fun _ e => ?_) (fun _ e => ?_)
  · exact t169_65 e
  · exact t169_60 e
def b169_22 (k16 : Option Nat → Int32 → Int32 → Int64 → Int32 → Int32 → Int32 → Int32 → Int64 → Int32 → xm Unit) (F : Nat) (l0 : Option Nat) (l1 : Int32) (l2 : Int32) (l3 : Int64) (l5 : Int32) (l6 : Int32) (l7 : Int32) (l8 : Int32) (l9 : Int64) (l11 : Int32) : xm Unit := mb (m148 F l3 (l11 + (1 : Int32))) fun v1 => mb (m150 F l9 l11 v1) fun v2 => k16 l0 l1 l2 l3 l5 l6 l7 l8 v2 (l11 + (1 : Int32))
theorem t169_22 {sc : Nat × (Nat → Int32)} {F : Nat} {r : Unit} {h' : xv_H} {k16 : Option Nat → Int32 → Int32 → Int64 → Int32 → Int32 → Int32 → Int32 → Int64 → Int32 → xm Unit} (hk16 : ∀ (l0 : Option Nat) (l1 : Int32) (l2 : Int32) (l3 : Int64) (l5 : Int32) (l6 : Int32) (l7 : Int32) (l8 : Int32) (l9 : Int64) (l11 : Int32) (d4 d10 : Option Value) (h : xv_H), k16 l0 l1 l2 l3 l5 l6 l7 l8 l9 l11 h = some (r, h') → xx sc 169 16 [some (va_rf l0), some (.int l1), some (.int l2), some (.long l3), d4, some (.int l5), some (.int l6), some (.int l7), some (.int l8), some (.long l9), d10, some (.int l11)] [] h (fun v g => v = none ∧ g = h')) {l0 : Option Nat} {l1 : Int32} {l2 : Int32} {l3 : Int64} {l5 : Int32} {l6 : Int32} {l7 : Int32} {l8 : Int32} {l9 : Int64} {l11 : Int32} {d4 d10 : Option Value} {h : xv_H} (e : b169_22 k16 F l0 l1 l2 l3 l5 l6 l7 l8 l9 l11 h = some (r, h')) : xx sc 169 22 [some (va_rf l0), some (.int l1), some (.int l2), some (.long l3), d4, some (.int l5), some (.int l6), some (.int l7), some (.int l8), some (.long l9), d10, some (.int l11)] [] h (fun v g => v = none ∧ g = h') := by
  unfold b169_22 at e
  refine xo_lload rfl rfl ?_
  refine xo_iload rfl rfl ?_
  refine xo_lload_n rfl rfl ?_
  refine xo_iload rfl rfl ?_
  refine xo_iconstV (x := 1) rfl (by decide) ?_
  refine xo_iadd rfl ?_
  refine d_static_i (av := [.long l3, .int (l11 + (1 : Int32))]) (rest := [.int l11, .long l9]) rfl ⟨by decide, by decide, by decide⟩ rfl rfl (by simp [xv_fit, va_rf_cat, cat_int, cat_long, cat_ref, cat_null, show xt_mx 148 = 3 from rfl, show xt_lg 148 = [0] from rfl]) (by simp [xv_room, va_rf_cat, cat_int, cat_long, cat_ref, cat_null]) (fun x0 h1 e1 => t148 e1) e (fun v1 h e => ?_)
  refine d_static_l (av := [.long l9, .int l11, .int v1]) (rest := []) rfl ⟨by decide, by decide, by decide⟩ rfl rfl (by simp [xv_fit, va_rf_cat, cat_int, cat_long, cat_ref, cat_null, show xt_mx 150 = 4 from rfl, show xt_lg 150 = [0] from rfl]) (by simp [xv_room, va_rf_cat, cat_int, cat_long, cat_ref, cat_null]) (fun x0 h1 e1 => t150 e1) e (fun v2 h e => ?_)
  refine xo_lstore rfl (Nat.le_of_ble_eq_true rfl) rfl rfl ?_
  refine xo_iincV (z := 1) rfl (by decide) rfl (Nat.le_of_ble_eq_true rfl) rfl ?_
  refine xo_goto rfl rfl ?_
  exact hk16 _ _ _ _ _ _ _ _ _ _ _ _ _ e
def b169_16 (F : Nat) : Nat → Option Nat → Int32 → Int32 → Int64 → Int32 → Int32 → Int32 → Int32 → Int64 → Int32 → xm Unit
  | 0, _, _, _, _, _, _, _, _, _, _ => fun _ => none
  | f + 1, l0, l1, l2, l3, l5, l6, l7, l8, l9, l11 => if (2 : Int32) ≤ l11 then b169_45 F l0 l1 l2 l5 l6 l7 l8 l9 else b169_22 (b169_16 F f) F l0 l1 l2 l3 l5 l6 l7 l8 l9 l11
theorem t169_16 {sc : Nat × (Nat → Int32)} {F : Nat} {r : Unit} {h' : xv_H} : ∀ (f : Nat) (l0 : Option Nat) (l1 : Int32) (l2 : Int32) (l3 : Int64) (l5 : Int32) (l6 : Int32) (l7 : Int32) (l8 : Int32) (l9 : Int64) (l11 : Int32) (d4 d10 : Option Value) (h : xv_H), b169_16 F f l0 l1 l2 l3 l5 l6 l7 l8 l9 l11 h = some (r, h') → xx sc 169 16 [some (va_rf l0), some (.int l1), some (.int l2), some (.long l3), d4, some (.int l5), some (.int l6), some (.int l7), some (.int l8), some (.long l9), d10, some (.int l11)] [] h (fun v g => v = none ∧ g = h') := by
  intro f
  induction f with
  | zero => intro l0 l1 l2 l3 l5 l6 l7 l8 l9 l11 d4 d10 h e; cases e
  | succ f ih =>
    intro l0 l1 l2 l3 l5 l6 l7 l8 l9 l11 d4 d10 h e
    unfold b169_16 at e
    refine xo_iload rfl rfl ?_
    refine xo_iconstV (x := 2) rfl (by decide) ?_
    refine d_icmp_ge rfl rfl e (fun _ e => ?_) (fun _ e => ?_)
    · exact t169_45 e
    · exact t169_22 (fun a0 a1 a2 a3 a4 a5 a6 a7 a8 a9 a10 a11 h e => ih a0 a1 a2 a3 a4 a5 a6 a7 a8 a9 a10 a11 h e) e
def b169_0 (F : Nat) (l0 : Option Nat) (l1 : Int32) (l2 : Int32) (l3 : Int64) (l5 : Int32) (l6 : Int32) (l7 : Int32) (l8 : Int32) : xm Unit := mb (m146 F l3) fun v1 => mb (m151 F l3 (v1 - (1 : Int32))) fun v2 => b169_16 F F l0 l1 l2 l3 l5 l6 l7 l8 v2 l5
theorem t169_0 {sc : Nat × (Nat → Int32)} {F : Nat} {r : Unit} {h' : xv_H} {l0 : Option Nat} {l1 : Int32} {l2 : Int32} {l3 : Int64} {l5 : Int32} {l6 : Int32} {l7 : Int32} {l8 : Int32} {d4 d9 d10 d11 : Option Value} {h : xv_H} (e : b169_0 F l0 l1 l2 l3 l5 l6 l7 l8 h = some (r, h')) : xx sc 169 0 [some (va_rf l0), some (.int l1), some (.int l2), some (.long l3), d4, some (.int l5), some (.int l6), some (.int l7), some (.int l8), d9, d10, d11] [] h (fun v g => v = none ∧ g = h') := by
  unfold b169_0 at e
  refine xo_lload_n rfl rfl ?_
  refine xo_lload_n rfl rfl ?_
  refine d_static_i (av := [.long l3]) (rest := [.long l3]) rfl ⟨by decide, by decide, by decide⟩ rfl rfl (by simp [xv_fit, va_rf_cat, cat_int, cat_long, cat_ref, cat_null, show xt_mx 146 = 2 from rfl, show xt_lg 146 = [0] from rfl]) (by simp [xv_room, va_rf_cat, cat_int, cat_long, cat_ref, cat_null]) (fun x0 h1 e1 => t146 e1) e (fun v1 h e => ?_)
  refine xo_iconstV (x := 1) rfl (by decide) ?_
  refine xo_isub rfl ?_
  refine d_static_l (av := [.long l3, .int (v1 - (1 : Int32))]) (rest := []) rfl ⟨by decide, by decide, by decide⟩ rfl rfl (by simp [xv_fit, va_rf_cat, cat_int, cat_long, cat_ref, cat_null, show xt_mx 151 = 3 from rfl, show xt_lg 151 = [0] from rfl]) (by simp [xv_room, va_rf_cat, cat_int, cat_long, cat_ref, cat_null]) (fun x0 h1 e1 => t151 e1) e (fun v2 h e => ?_)
  refine xo_lstore rfl (Nat.le_of_ble_eq_true rfl) rfl rfl ?_
  refine xo_iload rfl rfl ?_
  refine xo_istore rfl (Nat.le_of_ble_eq_true rfl) rfl ?_
  exact t169_16 F _ _ _ _ _ _ _ _ _ _ _ _ _ e
def m169 (F : Nat) (this : Nat) (p0 : Int32) (p1 : Int32) (p2 : Int64) (p3 : Int32) (p4 : Int32) (p5 : Int32) (p6 : Int32) : xm Unit := b169_0 F (some this) p0 p1 p2 p3 p4 p5 p6
theorem t169 {sc : Nat × (Nat → Int32)} {F : Nat} {this : Nat} {p0 : Int32} {p1 : Int32} {p2 : Int64} {p3 : Int32} {p4 : Int32} {p5 : Int32} {p6 : Int32} {h : xv_H} {r : Unit} {h' : xv_H} (e : m169 F this p0 p1 p2 p3 p4 p5 p6 h = some (r, h')) : xr sc 169 [.ref this, .int p0, .int p1, .long p2, .int p3, .int p4, .int p5, .int p6] h (fun v g => v = none ∧ g = h') := by
  have e0 : xv_ent (xt_mx 169) [.ref this, .int p0, .int p1, .long p2, .int p3, .int p4, .int p5, .int p6] = [some (va_rf (some this)), some (.int p0), some (.int p1), some (.long p2), none, some (.int p3), some (.int p4), some (.int p5), some (.int p6), none, none, none] := by simp [xv_ent, xv_sl, va_rf_cat, cat_int, cat_long, cat_ref, cat_null, va_rf_some, show xt_mx 169 = 12 from rfl]
  unfold xr
  rw [e0]
  exact t169_0 e
-- CellTreeModel.with(IIJIZIII)V
def b170_140 (F : Nat) (s0 : Int32) (l0 : Option Nat) (l1 : Int32) (l2 : Int32) (l11 : Int64) (l13 : Int32) (l14 : Int32) : xm Unit := mb (nn l0) fun v1 => mb (vc 9 v1) fun _ => mb (m145 F v1 l1) fun v2 => mb (vc 9 v1) fun _ => mb (m156 F v1 (3 : Int32) v2 l2 l11 l13 l14 s0) fun _ => mr ()
theorem t170_140 {sc : Nat × (Nat → Int32)} {F : Nat} {r : Unit} {h' : xv_H} {s0 : Int32} {l0 : Option Nat} {l1 : Int32} {l2 : Int32} {l11 : Int64} {l13 : Int32} {l14 : Int32} {d3 d4 d5 d6 d7 d8 d9 d10 d12 d15 : Option Value} {h : xv_H} (e : b170_140 F s0 l0 l1 l2 l11 l13 l14 h = some (r, h')) : xx sc 170 140 [some (va_rf l0), some (.int l1), some (.int l2), d3, d4, d5, d6, d7, d8, d9, d10, some (.long l11), d12, some (.int l13), some (.int l14), d15] [.int s0] h (fun v g => v = none ∧ g = h') := by
  unfold b170_140 at e
  refine xo_istore rfl (Nat.le_of_ble_eq_true rfl) rfl ?_
  refine xo_aload_nQ (w := l0) rfl rfl ?_
  refine xo_iconstV (x := 3) rfl (by decide) ?_
  refine xo_aload_nQ (w := l0) rfl rfl ?_
  refine xo_iload_n rfl rfl ?_
  refine d_nn e (fun v1 g e1 => ?_)
  subst g
  replace e := e1
  clear e1
  refine d_virtual_i (av := [.int l1]) (rest := [.int (3 : Int32), va_rf (some v1)]) rfl ⟨by decide, by decide⟩ rfl rfl (by simp [xv_fit, va_rf_cat, cat_int, cat_long, cat_ref, cat_null, show xt_mx 145 = 2 from rfl, show xt_lg 145 = [] from rfl]) (by simp [xv_room, va_rf_cat, cat_int, cat_long, cat_ref, cat_null]) (fun x0 h1 e1 => t145 e1) e (fun v2 h e => ?_)
  refine xo_iload_n rfl rfl ?_
  refine xo_lload rfl rfl ?_
  refine xo_iload rfl rfl ?_
  refine xo_iload rfl rfl ?_
  refine xo_iload rfl rfl ?_
  refine d_virtual_v (av := [.int (3 : Int32), .int v2, .int l2, .long l11, .int l13, .int l14, .int s0]) (rest := []) rfl ⟨by decide, by decide⟩ rfl rfl (by simp [xv_fit, va_rf_cat, cat_int, cat_long, cat_ref, cat_null, show xt_mx 156 = 9 from rfl, show xt_lg 156 = [4] from rfl]) (by simp [xv_room, va_rf_cat, cat_int, cat_long, cat_ref, cat_null]) (fun x0 h1 e1 => t156 e1) e (fun _ h e => ?_)
  exact d_ret rfl e
def b170_138 (F : Nat) (l0 : Option Nat) (l1 : Int32) (l2 : Int32) (l8 : Int32) (l11 : Int64) (l13 : Int32) (l14 : Int32) : xm Unit := b170_140 F l8 l0 l1 l2 l11 l13 l14
theorem t170_138 {sc : Nat × (Nat → Int32)} {F : Nat} {r : Unit} {h' : xv_H} {l0 : Option Nat} {l1 : Int32} {l2 : Int32} {l8 : Int32} {l11 : Int64} {l13 : Int32} {l14 : Int32} {d3 d4 d5 d6 d7 d9 d10 d12 d15 : Option Value} {h : xv_H} (e : b170_138 F l0 l1 l2 l8 l11 l13 l14 h = some (r, h')) : xx sc 170 138 [some (va_rf l0), some (.int l1), some (.int l2), d3, d4, d5, d6, d7, some (.int l8), d9, d10, some (.long l11), d12, some (.int l13), some (.int l14), d15] [] h (fun v g => v = none ∧ g = h') := by
  unfold b170_138 at e
  refine xo_iload rfl rfl ?_
  exact t170_140 e
def b170_133 (F : Nat) (l0 : Option Nat) (l1 : Int32) (l2 : Int32) (l9 : Int32) (l11 : Int64) (l13 : Int32) (l14 : Int32) : xm Unit := b170_140 F l9 l0 l1 l2 l11 l13 l14
theorem t170_133 {sc : Nat × (Nat → Int32)} {F : Nat} {r : Unit} {h' : xv_H} {l0 : Option Nat} {l1 : Int32} {l2 : Int32} {l9 : Int32} {l11 : Int64} {l13 : Int32} {l14 : Int32} {d3 d4 d5 d6 d7 d8 d10 d12 d15 : Option Value} {h : xv_H} (e : b170_133 F l0 l1 l2 l9 l11 l13 l14 h = some (r, h')) : xx sc 170 133 [some (va_rf l0), some (.int l1), some (.int l2), d3, d4, d5, d6, d7, d8, some (.int l9), d10, some (.long l11), d12, some (.int l13), some (.int l14), d15] [] h (fun v g => v = none ∧ g = h') := by
  unfold b170_133 at e
  refine xo_iload rfl rfl ?_
  refine xo_goto rfl rfl ?_
  exact t170_140 e
def b170_128 (F : Nat) (l0 : Option Nat) (l1 : Int32) (l2 : Int32) (l6 : Int32) (l8 : Int32) (l9 : Int32) (l11 : Int64) (l13 : Int32) (l14 : Int32) : xm Unit := if l6 = 0 then b170_138 F l0 l1 l2 l8 l11 l13 l14 else b170_133 F l0 l1 l2 l9 l11 l13 l14
theorem t170_128 {sc : Nat × (Nat → Int32)} {F : Nat} {r : Unit} {h' : xv_H} {l0 : Option Nat} {l1 : Int32} {l2 : Int32} {l6 : Int32} {l8 : Int32} {l9 : Int32} {l11 : Int64} {l13 : Int32} {l14 : Int32} {d3 d4 d5 d7 d10 d12 d15 : Option Value} {h : xv_H} (e : b170_128 F l0 l1 l2 l6 l8 l9 l11 l13 l14 h = some (r, h')) : xx sc 170 128 [some (va_rf l0), some (.int l1), some (.int l2), d3, d4, d5, some (.int l6), d7, some (.int l8), some (.int l9), d10, some (.long l11), d12, some (.int l13), some (.int l14), d15] [] h (fun v g => v = none ∧ g = h') := by
  unfold b170_128 at e
  refine xo_iload rfl rfl ?_
  refine d_if_eq rfl rfl e (fun _ e => ?_) (fun _ e => ?_)
  · exact t170_138 e
  · exact t170_133 e
def b170_123 (F : Nat) (l0 : Option Nat) (l1 : Int32) (l2 : Int32) (l10 : Int32) (l11 : Int64) (l13 : Int32) (l14 : Int32) : xm Unit := b170_140 F l10 l0 l1 l2 l11 l13 l14
theorem t170_123 {sc : Nat × (Nat → Int32)} {F : Nat} {r : Unit} {h' : xv_H} {l0 : Option Nat} {l1 : Int32} {l2 : Int32} {l10 : Int32} {l11 : Int64} {l13 : Int32} {l14 : Int32} {d3 d4 d5 d6 d7 d8 d9 d12 d15 : Option Value} {h : xv_H} (e : b170_123 F l0 l1 l2 l10 l11 l13 l14 h = some (r, h')) : xx sc 170 123 [some (va_rf l0), some (.int l1), some (.int l2), d3, d4, d5, d6, d7, d8, d9, some (.int l10), some (.long l11), d12, some (.int l13), some (.int l14), d15] [] h (fun v g => v = none ∧ g = h') := by
  unfold b170_123 at e
  refine xo_iload rfl rfl ?_
  refine xo_goto rfl rfl ?_
  exact t170_140 e
def b170_115 (F : Nat) (s0 : Int32) (l0 : Option Nat) (l1 : Int32) (l2 : Int32) (l5 : Int32) (l6 : Int32) (l8 : Int32) (l9 : Int32) (l10 : Int32) (l11 : Int64) (l13 : Int32) : xm Unit := if ¬ l5 = (2 : Int32) then b170_128 F l0 l1 l2 l6 l8 l9 l11 l13 s0 else b170_123 F l0 l1 l2 l10 l11 l13 s0
theorem t170_115 {sc : Nat × (Nat → Int32)} {F : Nat} {r : Unit} {h' : xv_H} {s0 : Int32} {l0 : Option Nat} {l1 : Int32} {l2 : Int32} {l5 : Int32} {l6 : Int32} {l8 : Int32} {l9 : Int32} {l10 : Int32} {l11 : Int64} {l13 : Int32} {d3 d4 d7 d12 d14 d15 : Option Value} {h : xv_H} (e : b170_115 F s0 l0 l1 l2 l5 l6 l8 l9 l10 l11 l13 h = some (r, h')) : xx sc 170 115 [some (va_rf l0), some (.int l1), some (.int l2), d3, d4, some (.int l5), some (.int l6), d7, some (.int l8), some (.int l9), some (.int l10), some (.long l11), d12, some (.int l13), d14, d15] [.int s0] h (fun v g => v = none ∧ g = h') := by
  unfold b170_115 at e
  refine xo_istore rfl (Nat.le_of_ble_eq_true rfl) rfl ?_
  refine xo_iload rfl rfl ?_
  refine xo_iconstV (x := 2) rfl (by decide) ?_
  refine d_icmp_ne rfl rfl e (fun _ e => ?_) (fun _ e => ?_)
  · exact t170_128 e
  · exact t170_123 e
def b170_113 (F : Nat) (l0 : Option Nat) (l1 : Int32) (l2 : Int32) (l5 : Int32) (l6 : Int32) (l8 : Int32) (l9 : Int32) (l10 : Int32) (l11 : Int64) (l13 : Int32) : xm Unit := b170_115 F l8 l0 l1 l2 l5 l6 l8 l9 l10 l11 l13
theorem t170_113 {sc : Nat × (Nat → Int32)} {F : Nat} {r : Unit} {h' : xv_H} {l0 : Option Nat} {l1 : Int32} {l2 : Int32} {l5 : Int32} {l6 : Int32} {l8 : Int32} {l9 : Int32} {l10 : Int32} {l11 : Int64} {l13 : Int32} {d3 d4 d7 d12 d14 d15 : Option Value} {h : xv_H} (e : b170_113 F l0 l1 l2 l5 l6 l8 l9 l10 l11 l13 h = some (r, h')) : xx sc 170 113 [some (va_rf l0), some (.int l1), some (.int l2), d3, d4, some (.int l5), some (.int l6), d7, some (.int l8), some (.int l9), some (.int l10), some (.long l11), d12, some (.int l13), d14, d15] [] h (fun v g => v = none ∧ g = h') := by
  unfold b170_113 at e
  refine xo_iload rfl rfl ?_
  exact t170_115 e
def b170_108 (F : Nat) (l0 : Option Nat) (l1 : Int32) (l2 : Int32) (l5 : Int32) (l6 : Int32) (l7 : Int32) (l8 : Int32) (l9 : Int32) (l10 : Int32) (l11 : Int64) (l13 : Int32) : xm Unit := b170_115 F l7 l0 l1 l2 l5 l6 l8 l9 l10 l11 l13
theorem t170_108 {sc : Nat × (Nat → Int32)} {F : Nat} {r : Unit} {h' : xv_H} {l0 : Option Nat} {l1 : Int32} {l2 : Int32} {l5 : Int32} {l6 : Int32} {l7 : Int32} {l8 : Int32} {l9 : Int32} {l10 : Int32} {l11 : Int64} {l13 : Int32} {d3 d4 d12 d14 d15 : Option Value} {h : xv_H} (e : b170_108 F l0 l1 l2 l5 l6 l7 l8 l9 l10 l11 l13 h = some (r, h')) : xx sc 170 108 [some (va_rf l0), some (.int l1), some (.int l2), d3, d4, some (.int l5), some (.int l6), some (.int l7), some (.int l8), some (.int l9), some (.int l10), some (.long l11), d12, some (.int l13), d14, d15] [] h (fun v g => v = none ∧ g = h') := by
  unfold b170_108 at e
  refine xo_iload rfl rfl ?_
  refine xo_goto rfl rfl ?_
  exact t170_115 e
def b170_103 (F : Nat) (l0 : Option Nat) (l1 : Int32) (l2 : Int32) (l5 : Int32) (l6 : Int32) (l7 : Int32) (l8 : Int32) (l9 : Int32) (l10 : Int32) (l11 : Int64) (l13 : Int32) : xm Unit := if ¬ l6 = 0 then b170_113 F l0 l1 l2 l5 l6 l8 l9 l10 l11 l13 else b170_108 F l0 l1 l2 l5 l6 l7 l8 l9 l10 l11 l13
theorem t170_103 {sc : Nat × (Nat → Int32)} {F : Nat} {r : Unit} {h' : xv_H} {l0 : Option Nat} {l1 : Int32} {l2 : Int32} {l5 : Int32} {l6 : Int32} {l7 : Int32} {l8 : Int32} {l9 : Int32} {l10 : Int32} {l11 : Int64} {l13 : Int32} {d3 d4 d12 d14 d15 : Option Value} {h : xv_H} (e : b170_103 F l0 l1 l2 l5 l6 l7 l8 l9 l10 l11 l13 h = some (r, h')) : xx sc 170 103 [some (va_rf l0), some (.int l1), some (.int l2), d3, d4, some (.int l5), some (.int l6), some (.int l7), some (.int l8), some (.int l9), some (.int l10), some (.long l11), d12, some (.int l13), d14, d15] [] h (fun v g => v = none ∧ g = h') := by
  unfold b170_103 at e
  refine xo_iload rfl rfl ?_
  refine d_if_ne rfl rfl e (fun _ e => ?_) (fun _ e => ?_)
  · exact t170_113 e
  · exact t170_108 e
def b170_98 (F : Nat) (l0 : Option Nat) (l1 : Int32) (l2 : Int32) (l5 : Int32) (l6 : Int32) (l7 : Int32) (l8 : Int32) (l9 : Int32) (l10 : Int32) (l11 : Int64) (l13 : Int32) : xm Unit := if ¬ l5 = 0 then b170_113 F l0 l1 l2 l5 l6 l8 l9 l10 l11 l13 else b170_103 F l0 l1 l2 l5 l6 l7 l8 l9 l10 l11 l13
theorem t170_98 {sc : Nat × (Nat → Int32)} {F : Nat} {r : Unit} {h' : xv_H} {l0 : Option Nat} {l1 : Int32} {l2 : Int32} {l5 : Int32} {l6 : Int32} {l7 : Int32} {l8 : Int32} {l9 : Int32} {l10 : Int32} {l11 : Int64} {l13 : Int32} {d3 d4 d12 d14 d15 : Option Value} {h : xv_H} (e : b170_98 F l0 l1 l2 l5 l6 l7 l8 l9 l10 l11 l13 h = some (r, h')) : xx sc 170 98 [some (va_rf l0), some (.int l1), some (.int l2), d3, d4, some (.int l5), some (.int l6), some (.int l7), some (.int l8), some (.int l9), some (.int l10), some (.long l11), d12, some (.int l13), d14, d15] [] h (fun v g => v = none ∧ g = h') := by
  unfold b170_98 at e
  refine xo_iload rfl rfl ?_
  refine d_if_ne rfl rfl e (fun _ e => ?_) (fun _ e => ?_)
  · exact t170_113 e
  · exact t170_103 e
def b170_93 (F : Nat) (l0 : Option Nat) (l1 : Int32) (l2 : Int32) (l5 : Int32) (l6 : Int32) (l8 : Int32) (l9 : Int32) (l10 : Int32) (l11 : Int64) (l13 : Int32) : xm Unit := b170_115 F l10 l0 l1 l2 l5 l6 l8 l9 l10 l11 l13
theorem t170_93 {sc : Nat × (Nat → Int32)} {F : Nat} {r : Unit} {h' : xv_H} {l0 : Option Nat} {l1 : Int32} {l2 : Int32} {l5 : Int32} {l6 : Int32} {l8 : Int32} {l9 : Int32} {l10 : Int32} {l11 : Int64} {l13 : Int32} {d3 d4 d7 d12 d14 d15 : Option Value} {h : xv_H} (e : b170_93 F l0 l1 l2 l5 l6 l8 l9 l10 l11 l13 h = some (r, h')) : xx sc 170 93 [some (va_rf l0), some (.int l1), some (.int l2), d3, d4, some (.int l5), some (.int l6), d7, some (.int l8), some (.int l9), some (.int l10), some (.long l11), d12, some (.int l13), d14, d15] [] h (fun v g => v = none ∧ g = h') := by
  unfold b170_93 at e
  refine xo_iload rfl rfl ?_
  refine xo_goto rfl rfl ?_
  exact t170_115 e
def b170_85 (F : Nat) (s0 : Int32) (l0 : Option Nat) (l1 : Int32) (l2 : Int32) (l5 : Int32) (l6 : Int32) (l7 : Int32) (l8 : Int32) (l9 : Int32) (l10 : Int32) (l11 : Int64) : xm Unit := if ¬ l5 = (1 : Int32) then b170_98 F l0 l1 l2 l5 l6 l7 l8 l9 l10 l11 s0 else b170_93 F l0 l1 l2 l5 l6 l8 l9 l10 l11 s0
theorem t170_85 {sc : Nat × (Nat → Int32)} {F : Nat} {r : Unit} {h' : xv_H} {s0 : Int32} {l0 : Option Nat} {l1 : Int32} {l2 : Int32} {l5 : Int32} {l6 : Int32} {l7 : Int32} {l8 : Int32} {l9 : Int32} {l10 : Int32} {l11 : Int64} {d3 d4 d12 d13 d14 d15 : Option Value} {h : xv_H} (e : b170_85 F s0 l0 l1 l2 l5 l6 l7 l8 l9 l10 l11 h = some (r, h')) : xx sc 170 85 [some (va_rf l0), some (.int l1), some (.int l2), d3, d4, some (.int l5), some (.int l6), some (.int l7), some (.int l8), some (.int l9), some (.int l10), some (.long l11), d12, d13, d14, d15] [.int s0] h (fun v g => v = none ∧ g = h') := by
  unfold b170_85 at e
  refine xo_istore rfl (Nat.le_of_ble_eq_true rfl) rfl ?_
  refine xo_iload rfl rfl ?_
  refine xo_iconstV (x := 1) rfl (by decide) ?_
  refine d_icmp_ne rfl rfl e (fun _ e => ?_) (fun _ e => ?_)
  · exact t170_98 e
  · exact t170_93 e
def b170_83 (F : Nat) (l0 : Option Nat) (l1 : Int32) (l2 : Int32) (l5 : Int32) (l6 : Int32) (l7 : Int32) (l8 : Int32) (l9 : Int32) (l10 : Int32) (l11 : Int64) : xm Unit := b170_85 F l7 l0 l1 l2 l5 l6 l7 l8 l9 l10 l11
theorem t170_83 {sc : Nat × (Nat → Int32)} {F : Nat} {r : Unit} {h' : xv_H} {l0 : Option Nat} {l1 : Int32} {l2 : Int32} {l5 : Int32} {l6 : Int32} {l7 : Int32} {l8 : Int32} {l9 : Int32} {l10 : Int32} {l11 : Int64} {d3 d4 d12 d13 d14 d15 : Option Value} {h : xv_H} (e : b170_83 F l0 l1 l2 l5 l6 l7 l8 l9 l10 l11 h = some (r, h')) : xx sc 170 83 [some (va_rf l0), some (.int l1), some (.int l2), d3, d4, some (.int l5), some (.int l6), some (.int l7), some (.int l8), some (.int l9), some (.int l10), some (.long l11), d12, d13, d14, d15] [] h (fun v g => v = none ∧ g = h') := by
  unfold b170_83 at e
  refine xo_iload rfl rfl ?_
  exact t170_85 e
def b170_78 (F : Nat) (l0 : Option Nat) (l1 : Int32) (l2 : Int32) (l5 : Int32) (l6 : Int32) (l7 : Int32) (l8 : Int32) (l9 : Int32) (l10 : Int32) (l11 : Int64) : xm Unit := b170_85 F l10 l0 l1 l2 l5 l6 l7 l8 l9 l10 l11
theorem t170_78 {sc : Nat × (Nat → Int32)} {F : Nat} {r : Unit} {h' : xv_H} {l0 : Option Nat} {l1 : Int32} {l2 : Int32} {l5 : Int32} {l6 : Int32} {l7 : Int32} {l8 : Int32} {l9 : Int32} {l10 : Int32} {l11 : Int64} {d3 d4 d12 d13 d14 d15 : Option Value} {h : xv_H} (e : b170_78 F l0 l1 l2 l5 l6 l7 l8 l9 l10 l11 h = some (r, h')) : xx sc 170 78 [some (va_rf l0), some (.int l1), some (.int l2), d3, d4, some (.int l5), some (.int l6), some (.int l7), some (.int l8), some (.int l9), some (.int l10), some (.long l11), d12, d13, d14, d15] [] h (fun v g => v = none ∧ g = h') := by
  unfold b170_78 at e
  refine xo_iload rfl rfl ?_
  refine xo_goto rfl rfl ?_
  exact t170_85 e
def b170_73 (F : Nat) (l0 : Option Nat) (l1 : Int32) (l2 : Int32) (l5 : Int32) (l6 : Int32) (l7 : Int32) (l8 : Int32) (l9 : Int32) (l10 : Int32) (l11 : Int64) : xm Unit := if ¬ l5 = 0 then b170_83 F l0 l1 l2 l5 l6 l7 l8 l9 l10 l11 else b170_78 F l0 l1 l2 l5 l6 l7 l8 l9 l10 l11
theorem t170_73 {sc : Nat × (Nat → Int32)} {F : Nat} {r : Unit} {h' : xv_H} {l0 : Option Nat} {l1 : Int32} {l2 : Int32} {l5 : Int32} {l6 : Int32} {l7 : Int32} {l8 : Int32} {l9 : Int32} {l10 : Int32} {l11 : Int64} {d3 d4 d12 d13 d14 d15 : Option Value} {h : xv_H} (e : b170_73 F l0 l1 l2 l5 l6 l7 l8 l9 l10 l11 h = some (r, h')) : xx sc 170 73 [some (va_rf l0), some (.int l1), some (.int l2), d3, d4, some (.int l5), some (.int l6), some (.int l7), some (.int l8), some (.int l9), some (.int l10), some (.long l11), d12, d13, d14, d15] [] h (fun v g => v = none ∧ g = h') := by
  unfold b170_73 at e
  refine xo_iload rfl rfl ?_
  refine d_if_ne rfl rfl e (fun _ e => ?_) (fun _ e => ?_)
  · exact t170_83 e
  · exact t170_78 e
def b170_49 (F : Nat) (l0 : Option Nat) (l1 : Int32) (l2 : Int32) (l3 : Int64) (l5 : Int32) (l6 : Int32) (l7 : Int32) (l8 : Int32) (l9 : Int32) (l10 : Int32) (l11 : Int64) : xm Unit := mb (nn l0) fun v1 => mb (gr 928 v1) fun v2 => mb (nn v2) fun v3 => mb (li v3 l1) fun v4 => mb (m150 F l11 l5 v4) fun v5 => mb (m146 F l3) fun v6 => mb (m151 F v5 (v6 + (1 : Int32))) fun v7 => b170_73 F (some v1) l1 l2 l5 l6 l7 l8 l9 l10 v7
theorem t170_49 {sc : Nat × (Nat → Int32)} {F : Nat} {r : Unit} {h' : xv_H} {l0 : Option Nat} {l1 : Int32} {l2 : Int32} {l3 : Int64} {l5 : Int32} {l6 : Int32} {l7 : Int32} {l8 : Int32} {l9 : Int32} {l10 : Int32} {l11 : Int64} {d4 d12 d13 d14 d15 : Option Value} {h : xv_H} (e : b170_49 F l0 l1 l2 l3 l5 l6 l7 l8 l9 l10 l11 h = some (r, h')) : xx sc 170 49 [some (va_rf l0), some (.int l1), some (.int l2), some (.long l3), d4, some (.int l5), some (.int l6), some (.int l7), some (.int l8), some (.int l9), some (.int l10), some (.long l11), d12, d13, d14, d15] [] h (fun v g => v = none ∧ g = h') := by
  unfold b170_49 at e
  refine xo_lload rfl rfl ?_
  refine xo_iload rfl rfl ?_
  refine xo_aload_nQ (w := l0) rfl rfl ?_
  refine d_nn e (fun v1 g e1 => ?_)
  subst g
  replace e := e1
  clear e1
  refine d_getr rfl e (fun v2 e => ?_)
  refine xo_iload_n rfl rfl ?_
  refine d_nn e (fun v3 g e1 => ?_)
  subst g
  replace e := e1
  clear e1
  refine d_iald rfl e (fun v4 e => ?_)
  refine d_static_l (av := [.long l11, .int l5, .int v4]) (rest := []) rfl ⟨by decide, by decide, by decide⟩ rfl rfl (by simp [xv_fit, va_rf_cat, cat_int, cat_long, cat_ref, cat_null, show xt_mx 150 = 4 from rfl, show xt_lg 150 = [0] from rfl]) (by simp [xv_room, va_rf_cat, cat_int, cat_long, cat_ref, cat_null]) (fun x0 h1 e1 => t150 e1) e (fun v5 h e => ?_)
  refine xo_lload_n rfl rfl ?_
  refine d_static_i (av := [.long l3]) (rest := [.long v5]) rfl ⟨by decide, by decide, by decide⟩ rfl rfl (by simp [xv_fit, va_rf_cat, cat_int, cat_long, cat_ref, cat_null, show xt_mx 146 = 2 from rfl, show xt_lg 146 = [0] from rfl]) (by simp [xv_room, va_rf_cat, cat_int, cat_long, cat_ref, cat_null]) (fun x0 h1 e1 => t146 e1) e (fun v6 h e => ?_)
  refine xo_iconstV (x := 1) rfl (by decide) ?_
  refine xo_iadd rfl ?_
  refine d_static_l (av := [.long v5, .int (v6 + (1 : Int32))]) (rest := []) rfl ⟨by decide, by decide, by decide⟩ rfl rfl (by simp [xv_fit, va_rf_cat, cat_int, cat_long, cat_ref, cat_null, show xt_mx 151 = 3 from rfl, show xt_lg 151 = [0] from rfl]) (by simp [xv_room, va_rf_cat, cat_int, cat_long, cat_ref, cat_null]) (fun x0 h1 e1 => t151 e1) e (fun v7 h e => ?_)
  refine xo_lstore rfl (Nat.le_of_ble_eq_true rfl) rfl rfl ?_
  exact t170_73 e
def b170_26 (k19 : Option Nat → Int32 → Int32 → Int64 → Int32 → Int32 → Int32 → Int32 → Int32 → Int32 → Int64 → Int32 → xm Unit) (F : Nat) (l0 : Option Nat) (l1 : Int32) (l2 : Int32) (l3 : Int64) (l5 : Int32) (l6 : Int32) (l7 : Int32) (l8 : Int32) (l9 : Int32) (l10 : Int32) (l11 : Int64) (l13 : Int32) : xm Unit := mb (m148 F l3 (l13 - (1 : Int32))) fun v1 => mb (m150 F l11 l13 v1) fun v2 => k19 l0 l1 l2 l3 l5 l6 l7 l8 l9 l10 v2 (l13 + (-1 : Int32))
theorem t170_26 {sc : Nat × (Nat → Int32)} {F : Nat} {r : Unit} {h' : xv_H} {k19 : Option Nat → Int32 → Int32 → Int64 → Int32 → Int32 → Int32 → Int32 → Int32 → Int32 → Int64 → Int32 → xm Unit} (hk19 : ∀ (l0 : Option Nat) (l1 : Int32) (l2 : Int32) (l3 : Int64) (l5 : Int32) (l6 : Int32) (l7 : Int32) (l8 : Int32) (l9 : Int32) (l10 : Int32) (l11 : Int64) (l13 : Int32) (d4 d12 d14 d15 : Option Value) (h : xv_H), k19 l0 l1 l2 l3 l5 l6 l7 l8 l9 l10 l11 l13 h = some (r, h') → xx sc 170 19 [some (va_rf l0), some (.int l1), some (.int l2), some (.long l3), d4, some (.int l5), some (.int l6), some (.int l7), some (.int l8), some (.int l9), some (.int l10), some (.long l11), d12, some (.int l13), d14, d15] [] h (fun v g => v = none ∧ g = h')) {l0 : Option Nat} {l1 : Int32} {l2 : Int32} {l3 : Int64} {l5 : Int32} {l6 : Int32} {l7 : Int32} {l8 : Int32} {l9 : Int32} {l10 : Int32} {l11 : Int64} {l13 : Int32} {d4 d12 d14 d15 : Option Value} {h : xv_H} (e : b170_26 k19 F l0 l1 l2 l3 l5 l6 l7 l8 l9 l10 l11 l13 h = some (r, h')) : xx sc 170 26 [some (va_rf l0), some (.int l1), some (.int l2), some (.long l3), d4, some (.int l5), some (.int l6), some (.int l7), some (.int l8), some (.int l9), some (.int l10), some (.long l11), d12, some (.int l13), d14, d15] [] h (fun v g => v = none ∧ g = h') := by
  unfold b170_26 at e
  refine xo_lload rfl rfl ?_
  refine xo_iload rfl rfl ?_
  refine xo_lload_n rfl rfl ?_
  refine xo_iload rfl rfl ?_
  refine xo_iconstV (x := 1) rfl (by decide) ?_
  refine xo_isub rfl ?_
  refine d_static_i (av := [.long l3, .int (l13 - (1 : Int32))]) (rest := [.int l13, .long l11]) rfl ⟨by decide, by decide, by decide⟩ rfl rfl (by simp [xv_fit, va_rf_cat, cat_int, cat_long, cat_ref, cat_null, show xt_mx 148 = 3 from rfl, show xt_lg 148 = [0] from rfl]) (by simp [xv_room, va_rf_cat, cat_int, cat_long, cat_ref, cat_null]) (fun x0 h1 e1 => t148 e1) e (fun v1 h e => ?_)
  refine d_static_l (av := [.long l11, .int l13, .int v1]) (rest := []) rfl ⟨by decide, by decide, by decide⟩ rfl rfl (by simp [xv_fit, va_rf_cat, cat_int, cat_long, cat_ref, cat_null, show xt_mx 150 = 4 from rfl, show xt_lg 150 = [0] from rfl]) (by simp [xv_room, va_rf_cat, cat_int, cat_long, cat_ref, cat_null]) (fun x0 h1 e1 => t150 e1) e (fun v2 h e => ?_)
  refine xo_lstore rfl (Nat.le_of_ble_eq_true rfl) rfl rfl ?_
  refine xo_iincV (z := (-1)) rfl (by decide) rfl (Nat.le_of_ble_eq_true rfl) rfl ?_
  refine xo_goto rfl rfl ?_
  exact hk19 _ _ _ _ _ _ _ _ _ _ _ _ _ _ _ _ _ e
def b170_19 (F : Nat) : Nat → Option Nat → Int32 → Int32 → Int64 → Int32 → Int32 → Int32 → Int32 → Int32 → Int32 → Int64 → Int32 → xm Unit
  | 0, _, _, _, _, _, _, _, _, _, _, _, _ => fun _ => none
  | f + 1, l0, l1, l2, l3, l5, l6, l7, l8, l9, l10, l11, l13 => if l13 ≤ l5 then b170_49 F l0 l1 l2 l3 l5 l6 l7 l8 l9 l10 l11 else b170_26 (b170_19 F f) F l0 l1 l2 l3 l5 l6 l7 l8 l9 l10 l11 l13
theorem t170_19 {sc : Nat × (Nat → Int32)} {F : Nat} {r : Unit} {h' : xv_H} : ∀ (f : Nat) (l0 : Option Nat) (l1 : Int32) (l2 : Int32) (l3 : Int64) (l5 : Int32) (l6 : Int32) (l7 : Int32) (l8 : Int32) (l9 : Int32) (l10 : Int32) (l11 : Int64) (l13 : Int32) (d4 d12 d14 d15 : Option Value) (h : xv_H), b170_19 F f l0 l1 l2 l3 l5 l6 l7 l8 l9 l10 l11 l13 h = some (r, h') → xx sc 170 19 [some (va_rf l0), some (.int l1), some (.int l2), some (.long l3), d4, some (.int l5), some (.int l6), some (.int l7), some (.int l8), some (.int l9), some (.int l10), some (.long l11), d12, some (.int l13), d14, d15] [] h (fun v g => v = none ∧ g = h') := by
  intro f
  induction f with
  | zero => intro l0 l1 l2 l3 l5 l6 l7 l8 l9 l10 l11 l13 d4 d12 d14 d15 h e; cases e
  | succ f ih =>
    intro l0 l1 l2 l3 l5 l6 l7 l8 l9 l10 l11 l13 d4 d12 d14 d15 h e
    unfold b170_19 at e
    refine xo_iload rfl rfl ?_
    refine xo_iload rfl rfl ?_
    refine d_icmp_le rfl rfl e (fun _ e => ?_) (fun _ e => ?_)
    · exact t170_49 e
    · exact t170_26 (fun a0 a1 a2 a3 a4 a5 a6 a7 a8 a9 a10 a11 a12 a13 a14 a15 h e => ih a0 a1 a2 a3 a4 a5 a6 a7 a8 a9 a10 a11 a12 a13 a14 a15 h e) e
def b170_16 (F : Nat) (l0 : Option Nat) (l1 : Int32) (l2 : Int32) (l3 : Int64) (l5 : Int32) (l6 : Int32) (l7 : Int32) (l8 : Int32) (l9 : Int32) (l10 : Int32) (l11 : Int64) : xm Unit := b170_19 F F l0 l1 l2 l3 l5 l6 l7 l8 l9 l10 l11 (2 : Int32)
theorem t170_16 {sc : Nat × (Nat → Int32)} {F : Nat} {r : Unit} {h' : xv_H} {l0 : Option Nat} {l1 : Int32} {l2 : Int32} {l3 : Int64} {l5 : Int32} {l6 : Int32} {l7 : Int32} {l8 : Int32} {l9 : Int32} {l10 : Int32} {l11 : Int64} {d4 d12 d13 d14 d15 : Option Value} {h : xv_H} (e : b170_16 F l0 l1 l2 l3 l5 l6 l7 l8 l9 l10 l11 h = some (r, h')) : xx sc 170 16 [some (va_rf l0), some (.int l1), some (.int l2), some (.long l3), d4, some (.int l5), some (.int l6), some (.int l7), some (.int l8), some (.int l9), some (.int l10), some (.long l11), d12, d13, d14, d15] [] h (fun v g => v = none ∧ g = h') := by
  unfold b170_16 at e
  refine xo_iconstV (x := 2) rfl (by decide) ?_
  refine xo_istore rfl (Nat.le_of_ble_eq_true rfl) rfl ?_
  exact t170_19 F _ _ _ _ _ _ _ _ _ _ _ _ _ _ _ _ _ e
def b170_0 (F : Nat) (l0 : Option Nat) (l1 : Int32) (l2 : Int32) (l3 : Int64) (l5 : Int32) (l6 : Int32) (l7 : Int32) (l8 : Int32) (l9 : Int32) : xm Unit := mb (nn l0) fun v1 => mb (gr 931 v1) fun v2 => mb (nn v2) fun v3 => mb (li v3 l1) fun v4 => if ¬ l6 = 0 then b170_73 F (some v1) l1 l2 l5 l6 l7 l8 l9 v4 l3 else b170_16 F (some v1) l1 l2 l3 l5 l6 l7 l8 l9 v4 l3
theorem t170_0 {sc : Nat × (Nat → Int32)} {F : Nat} {r : Unit} {h' : xv_H} {l0 : Option Nat} {l1 : Int32} {l2 : Int32} {l3 : Int64} {l5 : Int32} {l6 : Int32} {l7 : Int32} {l8 : Int32} {l9 : Int32} {d4 d10 d11 d12 d13 d14 d15 : Option Value} {h : xv_H} (e : b170_0 F l0 l1 l2 l3 l5 l6 l7 l8 l9 h = some (r, h')) : xx sc 170 0 [some (va_rf l0), some (.int l1), some (.int l2), some (.long l3), d4, some (.int l5), some (.int l6), some (.int l7), some (.int l8), some (.int l9), d10, d11, d12, d13, d14, d15] [] h (fun v g => v = none ∧ g = h') := by
  unfold b170_0 at e
  refine xo_aload_nQ (w := l0) rfl rfl ?_
  refine d_nn e (fun v1 g e1 => ?_)
  subst g
  replace e := e1
  clear e1
  refine d_getr rfl e (fun v2 e => ?_)
  refine xo_iload_n rfl rfl ?_
  refine d_nn e (fun v3 g e1 => ?_)
  subst g
  replace e := e1
  clear e1
  refine d_iald rfl e (fun v4 e => ?_)
  refine xo_istore rfl (Nat.le_of_ble_eq_true rfl) rfl ?_
  refine xo_lload_n rfl rfl ?_
  refine xo_lstore rfl (Nat.le_of_ble_eq_true rfl) rfl rfl ?_
  refine xo_iload rfl rfl ?_
  refine d_if_ne rfl rfl e (fun _ e => ?_) (fun _ e => ?_)
  · exact t170_73 e
  · exact t170_16 e
def m170 (F : Nat) (this : Nat) (p0 : Int32) (p1 : Int32) (p2 : Int64) (p3 : Int32) (p4 : Int32) (p5 : Int32) (p6 : Int32) (p7 : Int32) : xm Unit := b170_0 F (some this) p0 p1 p2 p3 p4 p5 p6 p7
theorem t170 {sc : Nat × (Nat → Int32)} {F : Nat} {this : Nat} {p0 : Int32} {p1 : Int32} {p2 : Int64} {p3 : Int32} {p4 : Int32} {p5 : Int32} {p6 : Int32} {p7 : Int32} {h : xv_H} {r : Unit} {h' : xv_H} (e : m170 F this p0 p1 p2 p3 p4 p5 p6 p7 h = some (r, h')) : xr sc 170 [.ref this, .int p0, .int p1, .long p2, .int p3, .int p4, .int p5, .int p6, .int p7] h (fun v g => v = none ∧ g = h') := by
  have e0 : xv_ent (xt_mx 170) [.ref this, .int p0, .int p1, .long p2, .int p3, .int p4, .int p5, .int p6, .int p7] = [some (va_rf (some this)), some (.int p0), some (.int p1), some (.long p2), none, some (.int p3), some (.int p4), some (.int p5), some (.int p6), some (.int p7), none, none, none, none, none, none] := by simp [xv_ent, xv_sl, va_rf_cat, cat_int, cat_long, cat_ref, cat_null, va_rf_some, show xt_mx 170 = 16 from rfl]
  unfold xr
  rw [e0]
  exact t170_0 e
-- CellTreeModel.atLeaf(IIJIII)V
def b167_225 (F : Nat) (l0 : Option Nat) (l1 : Int32) : xm Unit := mb (nn l0) fun v1 => mb (vc 9 v1) fun _ => mb (m160 F v1 l1 (1 : Int32) (2 : Int32)) fun _ => mr ()
theorem t167_225 {sc : Nat × (Nat → Int32)} {F : Nat} {r : Unit} {h' : xv_H} {l0 : Option Nat} {l1 : Int32} {d2 d3 d4 d5 d6 d7 d8 d9 d10 : Option Value} {h : xv_H} (e : b167_225 F l0 l1 h = some (r, h')) : xx sc 167 225 [some (va_rf l0), some (.int l1), d2, d3, d4, d5, d6, d7, d8, d9, d10] [] h (fun v g => v = none ∧ g = h') := by
  unfold b167_225 at e
  refine xo_aload_nQ (w := l0) rfl rfl ?_
  refine xo_iload_n rfl rfl ?_
  refine xo_iconstV (x := 1) rfl (by decide) ?_
  refine xo_iconstV (x := 2) rfl (by decide) ?_
  refine d_nn e (fun v1 g e1 => ?_)
  subst g
  replace e := e1
  clear e1
  refine d_virtual_v (av := [.int l1, .int (1 : Int32), .int (2 : Int32)]) (rest := []) rfl ⟨by decide, by decide⟩ rfl rfl (by simp [xv_fit, va_rf_cat, cat_int, cat_long, cat_ref, cat_null, show xt_mx 160 = 4 from rfl, show xt_lg 160 = [] from rfl]) (by simp [xv_room, va_rf_cat, cat_int, cat_long, cat_ref, cat_null]) (fun x0 h1 e1 => t160 e1) e (fun _ h e => ?_)
  exact d_ret rfl e
def b167_208 (F : Nat) (l0 : Option Nat) (l1 : Int32) (l2 : Int32) (l3 : Int64) (l5 : Int32) (l6 : Int32) (l7 : Int32) (l9 : Int32) (l10 : Int32) : xm Unit := mb (nn l0) fun v1 => mb (vc 9 v1) fun _ => mb (m170 F v1 l1 l2 l3 l9 l10 l5 l6 l7) fun _ => b167_225 F (some v1) l1
theorem t167_208 {sc : Nat × (Nat → Int32)} {F : Nat} {r : Unit} {h' : xv_H} {l0 : Option Nat} {l1 : Int32} {l2 : Int32} {l3 : Int64} {l5 : Int32} {l6 : Int32} {l7 : Int32} {l9 : Int32} {l10 : Int32} {d4 d8 : Option Value} {h : xv_H} (e : b167_208 F l0 l1 l2 l3 l5 l6 l7 l9 l10 h = some (r, h')) : xx sc 167 208 [some (va_rf l0), some (.int l1), some (.int l2), some (.long l3), d4, some (.int l5), some (.int l6), some (.int l7), d8, some (.int l9), some (.int l10)] [] h (fun v g => v = none ∧ g = h') := by
  unfold b167_208 at e
  refine xo_aload_nQ (w := l0) rfl rfl ?_
  refine xo_iload_n rfl rfl ?_
  refine xo_iload_n rfl rfl ?_
  refine xo_lload_n rfl rfl ?_
  refine xo_iload rfl rfl ?_
  refine xo_iload rfl rfl ?_
  refine xo_iload rfl rfl ?_
  refine xo_iload rfl rfl ?_
  refine xo_iload rfl rfl ?_
  refine d_nn e (fun v1 g e1 => ?_)
  subst g
  replace e := e1
  clear e1
  refine d_virtual_v (av := [.int l1, .int l2, .long l3, .int l9, .int l10, .int l5, .int l6, .int l7]) (rest := []) rfl ⟨by decide, by decide⟩ rfl rfl (by simp [xv_fit, va_rf_cat, cat_int, cat_long, cat_ref, cat_null, show xt_mx 170 = 16 from rfl, show xt_lg 170 = [3, 11] from rfl]) (by simp [xv_room, va_rf_cat, cat_int, cat_long, cat_ref, cat_null]) (fun x0 h1 e1 => t170 e1) e (fun _ h e => ?_)
  exact t167_225 e
def b167_190 (F : Nat) (l0 : Option Nat) (l1 : Int32) (l2 : Int32) (l3 : Int64) (l5 : Int32) (l6 : Int32) (l7 : Int32) (l9 : Int32) : xm Unit := mb (nn l0) fun v1 => mb (vc 9 v1) fun _ => mb (m169 F v1 l1 l2 l3 l9 l5 l6 l7) fun _ => b167_225 F (some v1) l1
theorem t167_190 {sc : Nat × (Nat → Int32)} {F : Nat} {r : Unit} {h' : xv_H} {l0 : Option Nat} {l1 : Int32} {l2 : Int32} {l3 : Int64} {l5 : Int32} {l6 : Int32} {l7 : Int32} {l9 : Int32} {d4 d8 d10 : Option Value} {h : xv_H} (e : b167_190 F l0 l1 l2 l3 l5 l6 l7 l9 h = some (r, h')) : xx sc 167 190 [some (va_rf l0), some (.int l1), some (.int l2), some (.long l3), d4, some (.int l5), some (.int l6), some (.int l7), d8, some (.int l9), d10] [] h (fun v g => v = none ∧ g = h') := by
  unfold b167_190 at e
  refine xo_aload_nQ (w := l0) rfl rfl ?_
  refine xo_iload_n rfl rfl ?_
  refine xo_iload_n rfl rfl ?_
  refine xo_lload_n rfl rfl ?_
  refine xo_iload rfl rfl ?_
  refine xo_iload rfl rfl ?_
  refine xo_iload rfl rfl ?_
  refine xo_iload rfl rfl ?_
  refine d_nn e (fun v1 g e1 => ?_)
  subst g
  replace e := e1
  clear e1
  refine d_virtual_v (av := [.int l1, .int l2, .long l3, .int l9, .int l5, .int l6, .int l7]) (rest := []) rfl ⟨by decide, by decide⟩ rfl rfl (by simp [xv_fit, va_rf_cat, cat_int, cat_long, cat_ref, cat_null, show xt_mx 169 = 12 from rfl, show xt_lg 169 = [3, 9] from rfl]) (by simp [xv_room, va_rf_cat, cat_int, cat_long, cat_ref, cat_null]) (fun x0 h1 e1 => t169 e1) e (fun _ h e => ?_)
  refine xo_goto rfl rfl ?_
  exact t167_225 e
def b167_179 (F : Nat) (s0 : Int32) (s1 : Int32) (s2 : Option Nat) (l0 : Option Nat) (l1 : Int32) (l2 : Int32) (l3 : Int64) (l5 : Int32) (l6 : Int32) (l7 : Int32) (l9 : Int32) (l10 : Int32) : xm Unit := mb (nn s2) fun v1 => mb (si v1 s1 s0) fun _ => mb (nn l0) fun v2 => mb (gr 925 v2) fun v3 => mb (nn v3) fun v4 => mb (li v4 l1) fun v5 => if ¬ v5 = (3 : Int32) then b167_208 F (some v2) l1 l2 l3 l5 l6 l7 l9 l10 else b167_190 F (some v2) l1 l2 l3 l5 l6 l7 l9
theorem t167_179 {sc : Nat × (Nat → Int32)} {F : Nat} {r : Unit} {h' : xv_H} {s0 : Int32} {s1 : Int32} {s2 : Option Nat} {l0 : Option Nat} {l1 : Int32} {l2 : Int32} {l3 : Int64} {l5 : Int32} {l6 : Int32} {l7 : Int32} {l9 : Int32} {l10 : Int32} {d4 d8 : Option Value} {h : xv_H} (e : b167_179 F s0 s1 s2 l0 l1 l2 l3 l5 l6 l7 l9 l10 h = some (r, h')) : xx sc 167 179 [some (va_rf l0), some (.int l1), some (.int l2), some (.long l3), d4, some (.int l5), some (.int l6), some (.int l7), d8, some (.int l9), some (.int l10)] [.int s0, .int s1, va_rf s2] h (fun v g => v = none ∧ g = h') := by
  unfold b167_179 at e
  refine d_nn e (fun v1 g e1 => ?_)
  subst g
  replace e := e1
  clear e1
  refine d_iast rfl e (fun h e => ?_)
  refine xo_aload_nQ (w := l0) rfl rfl ?_
  refine d_nn e (fun v2 g e1 => ?_)
  subst g
  replace e := e1
  clear e1
  refine d_getr rfl e (fun v3 e => ?_)
  refine xo_iload_n rfl rfl ?_
  refine d_nn e (fun v4 g e1 => ?_)
  subst g
  replace e := e1
  clear e1
  refine d_iald rfl e (fun v5 e => ?_)
  refine xo_iconstV (x := 3) rfl (by decide) ?_
  refine d_icmp_ne rfl rfl e (fun _ e => ?_) (fun _ e => ?_)
  · exact t167_208 e
  · exact t167_190 e
def b167_178 (F : Nat) (s0 : Int32) (s1 : Option Nat) (l0 : Option Nat) (l1 : Int32) (l2 : Int32) (l3 : Int64) (l5 : Int32) (l6 : Int32) (l7 : Int32) (l9 : Int32) (l10 : Int32) : xm Unit := b167_179 F (0 : Int32) s0 s1 l0 l1 l2 l3 l5 l6 l7 l9 l10
theorem t167_178 {sc : Nat × (Nat → Int32)} {F : Nat} {r : Unit} {h' : xv_H} {s0 : Int32} {s1 : Option Nat} {l0 : Option Nat} {l1 : Int32} {l2 : Int32} {l3 : Int64} {l5 : Int32} {l6 : Int32} {l7 : Int32} {l9 : Int32} {l10 : Int32} {d4 d8 : Option Value} {h : xv_H} (e : b167_178 F s0 s1 l0 l1 l2 l3 l5 l6 l7 l9 l10 h = some (r, h')) : xx sc 167 178 [some (va_rf l0), some (.int l1), some (.int l2), some (.long l3), d4, some (.int l5), some (.int l6), some (.int l7), d8, some (.int l9), some (.int l10)] [.int s0, va_rf s1] h (fun v g => v = none ∧ g = h') := by
  unfold b167_178 at e
  refine xo_iconstV (x := 0) rfl (by decide) ?_
  exact t167_179 e
def b167_164 (F : Nat) (s0 : Int32) (s1 : Option Nat) (l0 : Option Nat) (l1 : Int32) (l2 : Int32) (l3 : Int64) (l5 : Int32) (l6 : Int32) (l7 : Int32) (l9 : Int32) (l10 : Int32) : xm Unit := mb (m165 F l9 l5 l6 l7) fun v1 => b167_179 F v1 s0 s1 l0 l1 l2 l3 l5 l6 l7 l9 l10
theorem t167_164 {sc : Nat × (Nat → Int32)} {F : Nat} {r : Unit} {h' : xv_H} {s0 : Int32} {s1 : Option Nat} {l0 : Option Nat} {l1 : Int32} {l2 : Int32} {l3 : Int64} {l5 : Int32} {l6 : Int32} {l7 : Int32} {l9 : Int32} {l10 : Int32} {d4 d8 : Option Value} {h : xv_H} (e : b167_164 F s0 s1 l0 l1 l2 l3 l5 l6 l7 l9 l10 h = some (r, h')) : xx sc 167 164 [some (va_rf l0), some (.int l1), some (.int l2), some (.long l3), d4, some (.int l5), some (.int l6), some (.int l7), d8, some (.int l9), some (.int l10)] [.int s0, va_rf s1] h (fun v g => v = none ∧ g = h') := by
  unfold b167_164 at e
  refine xo_iload rfl rfl ?_
  refine xo_iload rfl rfl ?_
  refine xo_iload rfl rfl ?_
  refine xo_iload rfl rfl ?_
  refine d_static_i (av := [.int l9, .int l5, .int l6, .int l7]) (rest := [.int s0, va_rf s1]) rfl ⟨by decide, by decide, by decide⟩ rfl rfl (by simp [xv_fit, va_rf_cat, cat_int, cat_long, cat_ref, cat_null, show xt_mx 165 = 4 from rfl, show xt_lg 165 = [] from rfl]) (by simp [xv_room, va_rf_cat, cat_int, cat_long, cat_ref, cat_null]) (fun x0 h1 e1 => t165 e1) e (fun v1 h e => ?_)
  refine xo_goto rfl rfl ?_
  exact t167_179 e
def b167_146 (F : Nat) (l0 : Option Nat) (l1 : Int32) (l2 : Int32) (l3 : Int64) (l5 : Int32) (l6 : Int32) (l7 : Int32) (l9 : Int32) (l10 : Int32) : xm Unit := mb (nn l0) fun v1 => mb (gr 933 v1) fun v2 => mb (nn v2) fun v3 => mb (sb v3 l1 l10) fun _ => mb (gr 932 v1) fun v4 => if l10 = 0 then b167_178 F l1 v4 (some v1) l1 l2 l3 l5 l6 l7 l9 l10 else b167_164 F l1 v4 (some v1) l1 l2 l3 l5 l6 l7 l9 l10
theorem t167_146 {sc : Nat × (Nat → Int32)} {F : Nat} {r : Unit} {h' : xv_H} {l0 : Option Nat} {l1 : Int32} {l2 : Int32} {l3 : Int64} {l5 : Int32} {l6 : Int32} {l7 : Int32} {l9 : Int32} {l10 : Int32} {d4 d8 : Option Value} {h : xv_H} (e : b167_146 F l0 l1 l2 l3 l5 l6 l7 l9 l10 h = some (r, h')) : xx sc 167 146 [some (va_rf l0), some (.int l1), some (.int l2), some (.long l3), d4, some (.int l5), some (.int l6), some (.int l7), d8, some (.int l9), some (.int l10)] [] h (fun v g => v = none ∧ g = h') := by
  unfold b167_146 at e
  refine xo_aload_nQ (w := l0) rfl rfl ?_
  refine d_nn e (fun v1 g e1 => ?_)
  subst g
  replace e := e1
  clear e1
  refine d_getr rfl e (fun v2 e => ?_)
  refine xo_iload_n rfl rfl ?_
  refine xo_iload rfl rfl ?_
  refine d_nn e (fun v3 g e1 => ?_)
  subst g
  replace e := e1
  clear e1
  refine d_bast rfl e (fun h e => ?_)
  refine xo_aload_nQ (w := (some v1)) rfl rfl ?_
  refine d_getr rfl e (fun v4 e => ?_)
  refine xo_iload_n rfl rfl ?_
  refine xo_iload rfl rfl ?_
  refine d_if_eq rfl rfl e (fun _ e => ?_) (fun _ e => ?_)
  · exact t167_178 e
  · exact t167_164 e
def b167_132 (F : Nat) (l0 : Option Nat) (l1 : Int32) (l2 : Int32) (l3 : Int64) (l5 : Int32) (l6 : Int32) (l7 : Int32) : xm Unit := mb (nn l0) fun v1 => mb (vc 9 v1) fun _ => mb (m168 F v1 l1 l2 l3 l5 l6 l7) fun _ => mr ()
theorem t167_132 {sc : Nat × (Nat → Int32)} {F : Nat} {r : Unit} {h' : xv_H} {l0 : Option Nat} {l1 : Int32} {l2 : Int32} {l3 : Int64} {l5 : Int32} {l6 : Int32} {l7 : Int32} {d4 d8 d9 d10 : Option Value} {h : xv_H} (e : b167_132 F l0 l1 l2 l3 l5 l6 l7 h = some (r, h')) : xx sc 167 132 [some (va_rf l0), some (.int l1), some (.int l2), some (.long l3), d4, some (.int l5), some (.int l6), some (.int l7), d8, d9, d10] [] h (fun v g => v = none ∧ g = h') := by
  unfold b167_132 at e
  refine xo_aload_nQ (w := l0) rfl rfl ?_
  refine xo_iload_n rfl rfl ?_
  refine xo_iload_n rfl rfl ?_
  refine xo_lload_n rfl rfl ?_
  refine xo_iload rfl rfl ?_
  refine xo_iload rfl rfl ?_
  refine xo_iload rfl rfl ?_
  refine d_nn e (fun v1 g e1 => ?_)
  subst g
  replace e := e1
  clear e1
  refine d_virtual_v (av := [.int l1, .int l2, .long l3, .int l5, .int l6, .int l7]) (rest := []) rfl ⟨by decide, by decide⟩ rfl rfl (by simp [xv_fit, va_rf_cat, cat_int, cat_long, cat_ref, cat_null, show xt_mx 168 = 16 from rfl, show xt_lg 168 = [3, 9, 11] from rfl]) (by simp [xv_room, va_rf_cat, cat_int, cat_long, cat_ref, cat_null]) (fun x0 h1 e1 => t168 e1) e (fun _ h e => ?_)
  exact d_ret rfl e
def b167_124 (F : Nat) (l0 : Option Nat) (l1 : Int32) (l2 : Int32) (l3 : Int64) (l5 : Int32) (l6 : Int32) (l7 : Int32) (l9 : Int32) (l10 : Int32) : xm Unit := mb (m146 F l3) fun v1 => if ¬ v1 = (3 : Int32) then b167_146 F l0 l1 l2 l3 l5 l6 l7 l9 l10 else b167_132 F l0 l1 l2 l3 l5 l6 l7
theorem t167_124 {sc : Nat × (Nat → Int32)} {F : Nat} {r : Unit} {h' : xv_H} {l0 : Option Nat} {l1 : Int32} {l2 : Int32} {l3 : Int64} {l5 : Int32} {l6 : Int32} {l7 : Int32} {l9 : Int32} {l10 : Int32} {d4 d8 : Option Value} {h : xv_H} (e : b167_124 F l0 l1 l2 l3 l5 l6 l7 l9 l10 h = some (r, h')) : xx sc 167 124 [some (va_rf l0), some (.int l1), some (.int l2), some (.long l3), d4, some (.int l5), some (.int l6), some (.int l7), d8, some (.int l9), some (.int l10)] [] h (fun v g => v = none ∧ g = h') := by
  unfold b167_124 at e
  refine xo_lload_n rfl rfl ?_
  refine d_static_i (av := [.long l3]) (rest := []) rfl ⟨by decide, by decide, by decide⟩ rfl rfl (by simp [xv_fit, va_rf_cat, cat_int, cat_long, cat_ref, cat_null, show xt_mx 146 = 2 from rfl, show xt_lg 146 = [0] from rfl]) (by simp [xv_room, va_rf_cat, cat_int, cat_long, cat_ref, cat_null]) (fun x0 h1 e1 => t146 e1) e (fun v1 h e => ?_)
  refine xo_iconstV (x := 3) rfl (by decide) ?_
  refine d_icmp_ne rfl rfl e (fun _ e => ?_) (fun _ e => ?_)
  · exact t167_146 e
  · exact t167_132 e
def b167_119 (F : Nat) (l0 : Option Nat) (l1 : Int32) (l2 : Int32) (l3 : Int64) (l5 : Int32) (l6 : Int32) (l7 : Int32) (l9 : Int32) (l10 : Int32) : xm Unit := if ¬ l10 = 0 then b167_146 F l0 l1 l2 l3 l5 l6 l7 l9 l10 else b167_124 F l0 l1 l2 l3 l5 l6 l7 l9 l10
theorem t167_119 {sc : Nat × (Nat → Int32)} {F : Nat} {r : Unit} {h' : xv_H} {l0 : Option Nat} {l1 : Int32} {l2 : Int32} {l3 : Int64} {l5 : Int32} {l6 : Int32} {l7 : Int32} {l9 : Int32} {l10 : Int32} {d4 d8 : Option Value} {h : xv_H} (e : b167_119 F l0 l1 l2 l3 l5 l6 l7 l9 l10 h = some (r, h')) : xx sc 167 119 [some (va_rf l0), some (.int l1), some (.int l2), some (.long l3), d4, some (.int l5), some (.int l6), some (.int l7), d8, some (.int l9), some (.int l10)] [] h (fun v g => v = none ∧ g = h') := by
  unfold b167_119 at e
  refine xo_iload rfl rfl ?_
  refine d_if_ne rfl rfl e (fun _ e => ?_) (fun _ e => ?_)
  · exact t167_146 e
  · exact t167_124 e
def b167_109 (F : Nat) (l0 : Option Nat) (l1 : Int32) (l2 : Int32) (l3 : Int64) (l5 : Int32) (l6 : Int32) (l7 : Int32) (l9 : Int32) (l10 : Int32) : xm Unit := mb (nn l0) fun v1 => mb (gr 925 v1) fun v2 => mb (nn v2) fun v3 => mb (li v3 l1) fun v4 => if ¬ v4 = (2 : Int32) then b167_146 F (some v1) l1 l2 l3 l5 l6 l7 l9 l10 else b167_119 F (some v1) l1 l2 l3 l5 l6 l7 l9 l10
theorem t167_109 {sc : Nat × (Nat → Int32)} {F : Nat} {r : Unit} {h' : xv_H} {l0 : Option Nat} {l1 : Int32} {l2 : Int32} {l3 : Int64} {l5 : Int32} {l6 : Int32} {l7 : Int32} {l9 : Int32} {l10 : Int32} {d4 d8 : Option Value} {h : xv_H} (e : b167_109 F l0 l1 l2 l3 l5 l6 l7 l9 l10 h = some (r, h')) : xx sc 167 109 [some (va_rf l0), some (.int l1), some (.int l2), some (.long l3), d4, some (.int l5), some (.int l6), some (.int l7), d8, some (.int l9), some (.int l10)] [] h (fun v g => v = none ∧ g = h') := by
  unfold b167_109 at e
  refine xo_aload_nQ (w := l0) rfl rfl ?_
  refine d_nn e (fun v1 g e1 => ?_)
  subst g
  replace e := e1
  clear e1
  refine d_getr rfl e (fun v2 e => ?_)
  refine xo_iload_n rfl rfl ?_
  refine d_nn e (fun v3 g e1 => ?_)
  subst g
  replace e := e1
  clear e1
  refine d_iald rfl e (fun v4 e => ?_)
  refine xo_iconstV (x := 2) rfl (by decide) ?_
  refine d_icmp_ne rfl rfl e (fun _ e => ?_) (fun _ e => ?_)
  · exact t167_146 e
  · exact t167_119 e
def b167_102 (F : Nat) (s0 : Int32) (s1 : Int32) (s2 : Option Nat) (l0 : Option Nat) (l1 : Int32) : xm Unit := mb (nn s2) fun v1 => mb (si v1 s1 s0) fun _ => mb (nn l0) fun v2 => mb (vc 9 v2) fun _ => mb (m166 F v2 l1) fun _ => mr ()
theorem t167_102 {sc : Nat × (Nat → Int32)} {F : Nat} {r : Unit} {h' : xv_H} {s0 : Int32} {s1 : Int32} {s2 : Option Nat} {l0 : Option Nat} {l1 : Int32} {d2 d3 d4 d5 d6 d7 d8 d9 d10 : Option Value} {h : xv_H} (e : b167_102 F s0 s1 s2 l0 l1 h = some (r, h')) : xx sc 167 102 [some (va_rf l0), some (.int l1), d2, d3, d4, d5, d6, d7, d8, d9, d10] [.int s0, .int s1, va_rf s2] h (fun v g => v = none ∧ g = h') := by
  unfold b167_102 at e
  refine d_nn e (fun v1 g e1 => ?_)
  subst g
  replace e := e1
  clear e1
  refine d_iast rfl e (fun h e => ?_)
  refine xo_aload_nQ (w := l0) rfl rfl ?_
  refine xo_iload_n rfl rfl ?_
  refine d_nn e (fun v2 g e1 => ?_)
  subst g
  replace e := e1
  clear e1
  refine d_virtual_v (av := [.int l1]) (rest := []) rfl ⟨by decide, by decide⟩ rfl rfl (by simp [xv_fit, va_rf_cat, cat_int, cat_long, cat_ref, cat_null, show xt_mx 166 = 2 from rfl, show xt_lg 166 = [] from rfl]) (by simp [xv_room, va_rf_cat, cat_int, cat_long, cat_ref, cat_null]) (fun x0 h1 e1 => t166 e1) e (fun _ h e => ?_)
  exact d_ret rfl e
def b167_101 (F : Nat) (s0 : Int32) (s1 : Option Nat) (l0 : Option Nat) (l1 : Int32) : xm Unit := b167_102 F (0 : Int32) s0 s1 l0 l1
theorem t167_101 {sc : Nat × (Nat → Int32)} {F : Nat} {r : Unit} {h' : xv_H} {s0 : Int32} {s1 : Option Nat} {l0 : Option Nat} {l1 : Int32} {d2 d3 d4 d5 d6 d7 d8 d9 d10 : Option Value} {h : xv_H} (e : b167_101 F s0 s1 l0 l1 h = some (r, h')) : xx sc 167 101 [some (va_rf l0), some (.int l1), d2, d3, d4, d5, d6, d7, d8, d9, d10] [.int s0, va_rf s1] h (fun v g => v = none ∧ g = h') := by
  unfold b167_101 at e
  refine xo_iconstV (x := 0) rfl (by decide) ?_
  exact t167_102 e
def b167_87 (F : Nat) (s0 : Int32) (s1 : Option Nat) (l0 : Option Nat) (l1 : Int32) (l5 : Int32) (l6 : Int32) (l7 : Int32) (l9 : Int32) : xm Unit := mb (m165 F l9 l5 l6 l7) fun v1 => b167_102 F v1 s0 s1 l0 l1
theorem t167_87 {sc : Nat × (Nat → Int32)} {F : Nat} {r : Unit} {h' : xv_H} {s0 : Int32} {s1 : Option Nat} {l0 : Option Nat} {l1 : Int32} {l5 : Int32} {l6 : Int32} {l7 : Int32} {l9 : Int32} {d2 d3 d4 d8 d10 : Option Value} {h : xv_H} (e : b167_87 F s0 s1 l0 l1 l5 l6 l7 l9 h = some (r, h')) : xx sc 167 87 [some (va_rf l0), some (.int l1), d2, d3, d4, some (.int l5), some (.int l6), some (.int l7), d8, some (.int l9), d10] [.int s0, va_rf s1] h (fun v g => v = none ∧ g = h') := by
  unfold b167_87 at e
  refine xo_iload rfl rfl ?_
  refine xo_iload rfl rfl ?_
  refine xo_iload rfl rfl ?_
  refine xo_iload rfl rfl ?_
  refine d_static_i (av := [.int l9, .int l5, .int l6, .int l7]) (rest := [.int s0, va_rf s1]) rfl ⟨by decide, by decide, by decide⟩ rfl rfl (by simp [xv_fit, va_rf_cat, cat_int, cat_long, cat_ref, cat_null, show xt_mx 165 = 4 from rfl, show xt_lg 165 = [] from rfl]) (by simp [xv_room, va_rf_cat, cat_int, cat_long, cat_ref, cat_null]) (fun x0 h1 e1 => t165 e1) e (fun v1 h e => ?_)
  refine xo_goto rfl rfl ?_
  exact t167_102 e
def b167_69 (F : Nat) (l0 : Option Nat) (l1 : Int32) (l5 : Int32) (l6 : Int32) (l7 : Int32) (l9 : Int32) (l10 : Int32) : xm Unit := mb (nn l0) fun v1 => mb (gr 933 v1) fun v2 => mb (nn v2) fun v3 => mb (sb v3 l1 l10) fun _ => mb (gr 932 v1) fun v4 => if l10 = 0 then b167_101 F l1 v4 (some v1) l1 else b167_87 F l1 v4 (some v1) l1 l5 l6 l7 l9
theorem t167_69 {sc : Nat × (Nat → Int32)} {F : Nat} {r : Unit} {h' : xv_H} {l0 : Option Nat} {l1 : Int32} {l5 : Int32} {l6 : Int32} {l7 : Int32} {l9 : Int32} {l10 : Int32} {d2 d3 d4 d8 : Option Value} {h : xv_H} (e : b167_69 F l0 l1 l5 l6 l7 l9 l10 h = some (r, h')) : xx sc 167 69 [some (va_rf l0), some (.int l1), d2, d3, d4, some (.int l5), some (.int l6), some (.int l7), d8, some (.int l9), some (.int l10)] [] h (fun v g => v = none ∧ g = h') := by
  unfold b167_69 at e
  refine xo_aload_nQ (w := l0) rfl rfl ?_
  refine d_nn e (fun v1 g e1 => ?_)
  subst g
  replace e := e1
  clear e1
  refine d_getr rfl e (fun v2 e => ?_)
  refine xo_iload_n rfl rfl ?_
  refine xo_iload rfl rfl ?_
  refine d_nn e (fun v3 g e1 => ?_)
  subst g
  replace e := e1
  clear e1
  refine d_bast rfl e (fun h e => ?_)
  refine xo_aload_nQ (w := (some v1)) rfl rfl ?_
  refine d_getr rfl e (fun v4 e => ?_)
  refine xo_iload_n rfl rfl ?_
  refine xo_iload rfl rfl ?_
  refine d_if_eq rfl rfl e (fun _ e => ?_) (fun _ e => ?_)
  · exact t167_101 e
  · exact t167_87 e
def b167_64 (F : Nat) (l0 : Option Nat) (l1 : Int32) (l2 : Int32) (l3 : Int64) (l5 : Int32) (l6 : Int32) (l7 : Int32) (l9 : Int32) (l10 : Int32) : xm Unit := if ¬ l10 = 0 then b167_109 F l0 l1 l2 l3 l5 l6 l7 l9 l10 else b167_69 F l0 l1 l5 l6 l7 l9 l10
theorem t167_64 {sc : Nat × (Nat → Int32)} {F : Nat} {r : Unit} {h' : xv_H} {l0 : Option Nat} {l1 : Int32} {l2 : Int32} {l3 : Int64} {l5 : Int32} {l6 : Int32} {l7 : Int32} {l9 : Int32} {l10 : Int32} {d4 d8 : Option Value} {h : xv_H} (e : b167_64 F l0 l1 l2 l3 l5 l6 l7 l9 l10 h = some (r, h')) : xx sc 167 64 [some (va_rf l0), some (.int l1), some (.int l2), some (.long l3), d4, some (.int l5), some (.int l6), some (.int l7), d8, some (.int l9), some (.int l10)] [] h (fun v g => v = none ∧ g = h') := by
  unfold b167_64 at e
  refine xo_iload rfl rfl ?_
  refine d_if_ne rfl rfl e (fun _ e => ?_) (fun _ e => ?_)
  · exact t167_109 e
  · exact t167_69 e
def b167_54 (F : Nat) (l0 : Option Nat) (l1 : Int32) (l2 : Int32) (l3 : Int64) (l5 : Int32) (l6 : Int32) (l7 : Int32) (l9 : Int32) (l10 : Int32) : xm Unit := mb (nn l0) fun v1 => mb (gr 925 v1) fun v2 => mb (nn v2) fun v3 => mb (li v3 l1) fun v4 => if ¬ v4 = (3 : Int32) then b167_109 F (some v1) l1 l2 l3 l5 l6 l7 l9 l10 else b167_64 F (some v1) l1 l2 l3 l5 l6 l7 l9 l10
theorem t167_54 {sc : Nat × (Nat → Int32)} {F : Nat} {r : Unit} {h' : xv_H} {l0 : Option Nat} {l1 : Int32} {l2 : Int32} {l3 : Int64} {l5 : Int32} {l6 : Int32} {l7 : Int32} {l9 : Int32} {l10 : Int32} {d4 d8 : Option Value} {h : xv_H} (e : b167_54 F l0 l1 l2 l3 l5 l6 l7 l9 l10 h = some (r, h')) : xx sc 167 54 [some (va_rf l0), some (.int l1), some (.int l2), some (.long l3), d4, some (.int l5), some (.int l6), some (.int l7), d8, some (.int l9), some (.int l10)] [] h (fun v g => v = none ∧ g = h') := by
  unfold b167_54 at e
  refine xo_aload_nQ (w := l0) rfl rfl ?_
  refine d_nn e (fun v1 g e1 => ?_)
  subst g
  replace e := e1
  clear e1
  refine d_getr rfl e (fun v2 e => ?_)
  refine xo_iload_n rfl rfl ?_
  refine d_nn e (fun v3 g e1 => ?_)
  subst g
  replace e := e1
  clear e1
  refine d_iald rfl e (fun v4 e => ?_)
  refine xo_iconstV (x := 3) rfl (by decide) ?_
  refine d_icmp_ne rfl rfl e (fun _ e => ?_) (fun _ e => ?_)
  · exact t167_109 e
  · exact t167_64 e
def b167_42 (F : Nat) (s0 : Int32) (l0 : Option Nat) (l1 : Int32) (l2 : Int32) (l3 : Int64) (l5 : Int32) (l6 : Int32) (l7 : Int32) (l9 : Int32) : xm Unit := mb (nn l0) fun v1 => mb (gr 925 v1) fun v2 => mb (nn v2) fun v3 => mb (li v3 l1) fun v4 => if v4 = (1 : Int32) then b167_69 F (some v1) l1 l5 l6 l7 l9 s0 else b167_54 F (some v1) l1 l2 l3 l5 l6 l7 l9 s0
theorem t167_42 {sc : Nat × (Nat → Int32)} {F : Nat} {r : Unit} {h' : xv_H} {s0 : Int32} {l0 : Option Nat} {l1 : Int32} {l2 : Int32} {l3 : Int64} {l5 : Int32} {l6 : Int32} {l7 : Int32} {l9 : Int32} {d4 d8 d10 : Option Value} {h : xv_H} (e : b167_42 F s0 l0 l1 l2 l3 l5 l6 l7 l9 h = some (r, h')) : xx sc 167 42 [some (va_rf l0), some (.int l1), some (.int l2), some (.long l3), d4, some (.int l5), some (.int l6), some (.int l7), d8, some (.int l9), d10] [.int s0] h (fun v g => v = none ∧ g = h') := by
  unfold b167_42 at e
  refine xo_istore rfl (Nat.le_of_ble_eq_true rfl) rfl ?_
  refine xo_aload_nQ (w := l0) rfl rfl ?_
  refine d_nn e (fun v1 g e1 => ?_)
  subst g
  replace e := e1
  clear e1
  refine d_getr rfl e (fun v2 e => ?_)
  refine xo_iload_n rfl rfl ?_
  refine d_nn e (fun v3 g e1 => ?_)
  subst g
  replace e := e1
  clear e1
  refine d_iald rfl e (fun v4 e => ?_)
  refine xo_iconstV (x := 1) rfl (by decide) ?_
  refine d_icmp_eq rfl rfl e (fun _ e => ?_) (fun _ e => ?_)
  · exact t167_69 e
  · exact t167_54 e
def b167_41 (F : Nat) (l0 : Option Nat) (l1 : Int32) (l2 : Int32) (l3 : Int64) (l5 : Int32) (l6 : Int32) (l7 : Int32) (l9 : Int32) : xm Unit := b167_42 F (0 : Int32) l0 l1 l2 l3 l5 l6 l7 l9
theorem t167_41 {sc : Nat × (Nat → Int32)} {F : Nat} {r : Unit} {h' : xv_H} {l0 : Option Nat} {l1 : Int32} {l2 : Int32} {l3 : Int64} {l5 : Int32} {l6 : Int32} {l7 : Int32} {l9 : Int32} {d4 d8 d10 : Option Value} {h : xv_H} (e : b167_41 F l0 l1 l2 l3 l5 l6 l7 l9 h = some (r, h')) : xx sc 167 41 [some (va_rf l0), some (.int l1), some (.int l2), some (.long l3), d4, some (.int l5), some (.int l6), some (.int l7), d8, some (.int l9), d10] [] h (fun v g => v = none ∧ g = h') := by
  unfold b167_41 at e
  refine xo_iconstV (x := 0) rfl (by decide) ?_
  exact t167_42 e
def b167_37 (F : Nat) (l0 : Option Nat) (l1 : Int32) (l2 : Int32) (l3 : Int64) (l5 : Int32) (l6 : Int32) (l7 : Int32) (l9 : Int32) : xm Unit := b167_42 F (1 : Int32) l0 l1 l2 l3 l5 l6 l7 l9
theorem t167_37 {sc : Nat × (Nat → Int32)} {F : Nat} {r : Unit} {h' : xv_H} {l0 : Option Nat} {l1 : Int32} {l2 : Int32} {l3 : Int64} {l5 : Int32} {l6 : Int32} {l7 : Int32} {l9 : Int32} {d4 d8 d10 : Option Value} {h : xv_H} (e : b167_37 F l0 l1 l2 l3 l5 l6 l7 l9 h = some (r, h')) : xx sc 167 37 [some (va_rf l0), some (.int l1), some (.int l2), some (.long l3), d4, some (.int l5), some (.int l6), some (.int l7), d8, some (.int l9), d10] [] h (fun v g => v = none ∧ g = h') := by
  unfold b167_37 at e
  refine xo_iconstV (x := 1) rfl (by decide) ?_
  refine xo_goto rfl rfl ?_
  exact t167_42 e
def b167_26 (F : Nat) (l0 : Option Nat) (l1 : Int32) (l2 : Int32) (l3 : Int64) (l5 : Int32) (l6 : Int32) (l7 : Int32) (l8 : Int32) (l9 : Int32) : xm Unit := mb (m148 F l3 l9) fun v1 => if ¬ v1 = l8 then b167_41 F l0 l1 l2 l3 l5 l6 l7 l9 else b167_37 F l0 l1 l2 l3 l5 l6 l7 l9
theorem t167_26 {sc : Nat × (Nat → Int32)} {F : Nat} {r : Unit} {h' : xv_H} {l0 : Option Nat} {l1 : Int32} {l2 : Int32} {l3 : Int64} {l5 : Int32} {l6 : Int32} {l7 : Int32} {l8 : Int32} {l9 : Int32} {d4 d10 : Option Value} {h : xv_H} (e : b167_26 F l0 l1 l2 l3 l5 l6 l7 l8 l9 h = some (r, h')) : xx sc 167 26 [some (va_rf l0), some (.int l1), some (.int l2), some (.long l3), d4, some (.int l5), some (.int l6), some (.int l7), some (.int l8), some (.int l9), d10] [] h (fun v g => v = none ∧ g = h') := by
  unfold b167_26 at e
  refine xo_lload_n rfl rfl ?_
  refine xo_iload rfl rfl ?_
  refine d_static_i (av := [.long l3, .int l9]) (rest := []) rfl ⟨by decide, by decide, by decide⟩ rfl rfl (by simp [xv_fit, va_rf_cat, cat_int, cat_long, cat_ref, cat_null, show xt_mx 148 = 3 from rfl, show xt_lg 148 = [0] from rfl]) (by simp [xv_room, va_rf_cat, cat_int, cat_long, cat_ref, cat_null]) (fun x0 h1 e1 => t148 e1) e (fun v1 h e => ?_)
  refine xo_iload rfl rfl ?_
  refine d_icmp_ne rfl rfl e (fun _ e => ?_) (fun _ e => ?_)
  · exact t167_41 e
  · exact t167_37 e
def b167_0 (F : Nat) (l0 : Option Nat) (l1 : Int32) (l2 : Int32) (l3 : Int64) (l5 : Int32) (l6 : Int32) (l7 : Int32) : xm Unit := mb (nn l0) fun v1 => mb (gr 928 v1) fun v2 => mb (nn v2) fun v3 => mb (li v3 l1) fun v4 => mb (m159 F l3 v4 (0 : Int32)) fun v5 => mb (m146 F l3) fun v6 => if v6 ≤ v5 then b167_41 F (some v1) l1 l2 l3 l5 l6 l7 v5 else b167_26 F (some v1) l1 l2 l3 l5 l6 l7 v4 v5
theorem t167_0 {sc : Nat × (Nat → Int32)} {F : Nat} {r : Unit} {h' : xv_H} {l0 : Option Nat} {l1 : Int32} {l2 : Int32} {l3 : Int64} {l5 : Int32} {l6 : Int32} {l7 : Int32} {d4 d8 d9 d10 : Option Value} {h : xv_H} (e : b167_0 F l0 l1 l2 l3 l5 l6 l7 h = some (r, h')) : xx sc 167 0 [some (va_rf l0), some (.int l1), some (.int l2), some (.long l3), d4, some (.int l5), some (.int l6), some (.int l7), d8, d9, d10] [] h (fun v g => v = none ∧ g = h') := by
  unfold b167_0 at e
  refine xo_aload_nQ (w := l0) rfl rfl ?_
  refine d_nn e (fun v1 g e1 => ?_)
  subst g
  replace e := e1
  clear e1
  refine d_getr rfl e (fun v2 e => ?_)
  refine xo_iload_n rfl rfl ?_
  refine d_nn e (fun v3 g e1 => ?_)
  subst g
  replace e := e1
  clear e1
  refine d_iald rfl e (fun v4 e => ?_)
  refine xo_istore rfl (Nat.le_of_ble_eq_true rfl) rfl ?_
  refine xo_lload_n rfl rfl ?_
  refine xo_iload rfl rfl ?_
  refine xo_iconstV (x := 0) rfl (by decide) ?_
  refine d_static_i (av := [.long l3, .int v4, .int (0 : Int32)]) (rest := []) rfl ⟨by decide, by decide, by decide⟩ rfl rfl (by simp [xv_fit, va_rf_cat, cat_int, cat_long, cat_ref, cat_null, show xt_mx 159 = 6 from rfl, show xt_lg 159 = [0] from rfl]) (by simp [xv_room, va_rf_cat, cat_int, cat_long, cat_ref, cat_null]) (fun x0 h1 e1 => t159 e1) e (fun v5 h e => ?_)
  refine xo_istore rfl (Nat.le_of_ble_eq_true rfl) rfl ?_
  refine xo_iload rfl rfl ?_
  refine xo_lload_n rfl rfl ?_
  refine d_static_i (av := [.long l3]) (rest := [.int v5]) rfl ⟨by decide, by decide, by decide⟩ rfl rfl (by simp [xv_fit, va_rf_cat, cat_int, cat_long, cat_ref, cat_null, show xt_mx 146 = 2 from rfl, show xt_lg 146 = [0] from rfl]) (by simp [xv_room, va_rf_cat, cat_int, cat_long, cat_ref, cat_null]) (fun x0 h1 e1 => t146 e1) e (fun v6 h e => ?_)
  refine d_icmp_ge rfl rfl e (fun _ e => ?_) (fun _ e => ?_)
  · exact t167_41 e
  · exact t167_26 e
def m167 (F : Nat) (this : Nat) (p0 : Int32) (p1 : Int32) (p2 : Int64) (p3 : Int32) (p4 : Int32) (p5 : Int32) : xm Unit := b167_0 F (some this) p0 p1 p2 p3 p4 p5
theorem t167 {sc : Nat × (Nat → Int32)} {F : Nat} {this : Nat} {p0 : Int32} {p1 : Int32} {p2 : Int64} {p3 : Int32} {p4 : Int32} {p5 : Int32} {h : xv_H} {r : Unit} {h' : xv_H} (e : m167 F this p0 p1 p2 p3 p4 p5 h = some (r, h')) : xr sc 167 [.ref this, .int p0, .int p1, .long p2, .int p3, .int p4, .int p5] h (fun v g => v = none ∧ g = h') := by
  have e0 : xv_ent (xt_mx 167) [.ref this, .int p0, .int p1, .long p2, .int p3, .int p4, .int p5] = [some (va_rf (some this)), some (.int p0), some (.int p1), some (.long p2), none, some (.int p3), some (.int p4), some (.int p5), none, none, none] := by simp [xv_ent, xv_sl, va_rf_cat, cat_int, cat_long, cat_ref, cat_null, va_rf_some, show xt_mx 167 = 11 from rfl]
  unfold xr
  rw [e0]
  exact t167_0 e
-- CellTreeModel.looked(IIJIII)V
def b163_155 (F : Nat) : xm Unit := mr ()
theorem t163_155 {sc : Nat × (Nat → Int32)} {F : Nat} {r : Unit} {h' : xv_H} {d0 d1 d2 d3 d4 d5 d6 d7 d8 d9 : Option Value} {h : xv_H} (e : b163_155 F h = some (r, h')) : xx sc 163 155 [d0, d1, d2, d3, d4, d5, d6, d7, d8, d9] [] h (fun v g => v = none ∧ g = h') := by
  unfold b163_155 at e
  exact d_ret rfl e
def b163_150 (F : Nat) (l0 : Option Nat) (l1 : Int32) : xm Unit := mb (nn l0) fun v1 => mb (vc 9 v1) fun _ => mb (m139 F v1 l1) fun _ => b163_155 F
theorem t163_150 {sc : Nat × (Nat → Int32)} {F : Nat} {r : Unit} {h' : xv_H} {l0 : Option Nat} {l1 : Int32} {d2 d3 d4 d5 d6 d7 d8 d9 : Option Value} {h : xv_H} (e : b163_150 F l0 l1 h = some (r, h')) : xx sc 163 150 [some (va_rf l0), some (.int l1), d2, d3, d4, d5, d6, d7, d8, d9] [] h (fun v g => v = none ∧ g = h') := by
  unfold b163_150 at e
  refine xo_aload_nQ (w := l0) rfl rfl ?_
  refine xo_iload_n rfl rfl ?_
  refine d_nn e (fun v1 g e1 => ?_)
  subst g
  replace e := e1
  clear e1
  refine d_virtual_v (av := [.int l1]) (rest := []) rfl ⟨by decide, by decide⟩ rfl rfl (by simp [xv_fit, va_rf_cat, cat_int, cat_long, cat_ref, cat_null, show xt_mx 139 = 2 from rfl, show xt_lg 139 = [] from rfl]) (by simp [xv_room, va_rf_cat, cat_int, cat_long, cat_ref, cat_null]) (fun x0 h1 e1 => t139 e1) e (fun _ h e => ?_)
  exact t163_155 e
def b163_134 (F : Nat) (l0 : Option Nat) (l1 : Int32) (l2 : Int32) (l3 : Int64) (l5 : Int32) (l6 : Int32) (l7 : Int32) : xm Unit := mb (nn l0) fun v1 => mb (vc 9 v1) fun _ => mb (m167 F v1 l1 l2 l3 l5 l6 l7) fun _ => b163_155 F
theorem t163_134 {sc : Nat × (Nat → Int32)} {F : Nat} {r : Unit} {h' : xv_H} {l0 : Option Nat} {l1 : Int32} {l2 : Int32} {l3 : Int64} {l5 : Int32} {l6 : Int32} {l7 : Int32} {d4 d8 d9 : Option Value} {h : xv_H} (e : b163_134 F l0 l1 l2 l3 l5 l6 l7 h = some (r, h')) : xx sc 163 134 [some (va_rf l0), some (.int l1), some (.int l2), some (.long l3), d4, some (.int l5), some (.int l6), some (.int l7), d8, d9] [] h (fun v g => v = none ∧ g = h') := by
  unfold b163_134 at e
  refine xo_aload_nQ (w := l0) rfl rfl ?_
  refine xo_iload_n rfl rfl ?_
  refine xo_iload_n rfl rfl ?_
  refine xo_lload_n rfl rfl ?_
  refine xo_iload rfl rfl ?_
  refine xo_iload rfl rfl ?_
  refine xo_iload rfl rfl ?_
  refine d_nn e (fun v1 g e1 => ?_)
  subst g
  replace e := e1
  clear e1
  refine d_virtual_v (av := [.int l1, .int l2, .long l3, .int l5, .int l6, .int l7]) (rest := []) rfl ⟨by decide, by decide⟩ rfl rfl (by simp [xv_fit, va_rf_cat, cat_int, cat_long, cat_ref, cat_null, show xt_mx 167 = 11 from rfl, show xt_lg 167 = [3] from rfl]) (by simp [xv_room, va_rf_cat, cat_int, cat_long, cat_ref, cat_null]) (fun x0 h1 e1 => t167 e1) e (fun _ h e => ?_)
  refine xo_goto rfl rfl ?_
  exact t163_155 e
def b163_118 (F : Nat) (l0 : Option Nat) (l1 : Int32) (l2 : Int32) (l3 : Int64) (l5 : Int32) (l6 : Int32) (l7 : Int32) : xm Unit := mb (nn l0) fun v1 => mb (vc 9 v1) fun _ => mb (m164 F v1 l1 l2 l3 l5 l6 l7) fun _ => b163_155 F
theorem t163_118 {sc : Nat × (Nat → Int32)} {F : Nat} {r : Unit} {h' : xv_H} {l0 : Option Nat} {l1 : Int32} {l2 : Int32} {l3 : Int64} {l5 : Int32} {l6 : Int32} {l7 : Int32} {d4 d8 d9 : Option Value} {h : xv_H} (e : b163_118 F l0 l1 l2 l3 l5 l6 l7 h = some (r, h')) : xx sc 163 118 [some (va_rf l0), some (.int l1), some (.int l2), some (.long l3), d4, some (.int l5), some (.int l6), some (.int l7), d8, d9] [] h (fun v g => v = none ∧ g = h') := by
  unfold b163_118 at e
  refine xo_aload_nQ (w := l0) rfl rfl ?_
  refine xo_iload_n rfl rfl ?_
  refine xo_iload_n rfl rfl ?_
  refine xo_lload_n rfl rfl ?_
  refine xo_iload rfl rfl ?_
  refine xo_iload rfl rfl ?_
  refine xo_iload rfl rfl ?_
  refine d_nn e (fun v1 g e1 => ?_)
  subst g
  replace e := e1
  clear e1
  refine d_virtual_v (av := [.int l1, .int l2, .long l3, .int l5, .int l6, .int l7]) (rest := []) rfl ⟨by decide, by decide⟩ rfl rfl (by simp [xv_fit, va_rf_cat, cat_int, cat_long, cat_ref, cat_null, show xt_mx 164 = 9 from rfl, show xt_lg 164 = [3] from rfl]) (by simp [xv_room, va_rf_cat, cat_int, cat_long, cat_ref, cat_null]) (fun x0 h1 e1 => t164 e1) e (fun _ h e => ?_)
  refine xo_goto rfl rfl ?_
  exact t163_155 e
def b163_108 (F : Nat) (l0 : Option Nat) (l1 : Int32) (l2 : Int32) (l3 : Int64) (l5 : Int32) (l6 : Int32) (l7 : Int32) : xm Unit := mb (nn l0) fun v1 => mb (gr 925 v1) fun v2 => mb (nn v2) fun v3 => mb (li v3 l1) fun v4 => if ¬ v4 = (4 : Int32) then b163_134 F (some v1) l1 l2 l3 l5 l6 l7 else b163_118 F (some v1) l1 l2 l3 l5 l6 l7
theorem t163_108 {sc : Nat × (Nat → Int32)} {F : Nat} {r : Unit} {h' : xv_H} {l0 : Option Nat} {l1 : Int32} {l2 : Int32} {l3 : Int64} {l5 : Int32} {l6 : Int32} {l7 : Int32} {d4 d8 d9 : Option Value} {h : xv_H} (e : b163_108 F l0 l1 l2 l3 l5 l6 l7 h = some (r, h')) : xx sc 163 108 [some (va_rf l0), some (.int l1), some (.int l2), some (.long l3), d4, some (.int l5), some (.int l6), some (.int l7), d8, d9] [] h (fun v g => v = none ∧ g = h') := by
  unfold b163_108 at e
  refine xo_aload_nQ (w := l0) rfl rfl ?_
  refine d_nn e (fun v1 g e1 => ?_)
  subst g
  replace e := e1
  clear e1
  refine d_getr rfl e (fun v2 e => ?_)
  refine xo_iload_n rfl rfl ?_
  refine d_nn e (fun v3 g e1 => ?_)
  subst g
  replace e := e1
  clear e1
  refine d_iald rfl e (fun v4 e => ?_)
  refine xo_iconstV (x := 4) rfl (by decide) ?_
  refine d_icmp_ne rfl rfl e (fun _ e => ?_) (fun _ e => ?_)
  · exact t163_134 e
  · exact t163_118 e
def b163_103 (F : Nat) (l0 : Option Nat) (l1 : Int32) (l2 : Int32) (l3 : Int64) (l5 : Int32) (l6 : Int32) (l7 : Int32) (l9 : Int32) : xm Unit := if l9 = 0 then b163_150 F l0 l1 else b163_108 F l0 l1 l2 l3 l5 l6 l7
theorem t163_103 {sc : Nat × (Nat → Int32)} {F : Nat} {r : Unit} {h' : xv_H} {l0 : Option Nat} {l1 : Int32} {l2 : Int32} {l3 : Int64} {l5 : Int32} {l6 : Int32} {l7 : Int32} {l9 : Int32} {d4 d8 : Option Value} {h : xv_H} (e : b163_103 F l0 l1 l2 l3 l5 l6 l7 l9 h = some (r, h')) : xx sc 163 103 [some (va_rf l0), some (.int l1), some (.int l2), some (.long l3), d4, some (.int l5), some (.int l6), some (.int l7), d8, some (.int l9)] [] h (fun v g => v = none ∧ g = h') := by
  unfold b163_103 at e
  refine xo_iload rfl rfl ?_
  refine d_if_eq rfl rfl e (fun _ e => ?_) (fun _ e => ?_)
  · exact t163_150 e
  · exact t163_108 e
def b163_95 (F : Nat) (l0 : Option Nat) (l1 : Int32) (l2 : Int32) (l3 : Int64) (l5 : Int32) (l6 : Int32) (l7 : Int32) (l9 : Int32) : xm Unit := mb (m134 F l3) fun v1 => if ¬ v1 = (1 : Int32) then b163_150 F l0 l1 else b163_103 F l0 l1 l2 l3 l5 l6 l7 l9
theorem t163_95 {sc : Nat × (Nat → Int32)} {F : Nat} {r : Unit} {h' : xv_H} {l0 : Option Nat} {l1 : Int32} {l2 : Int32} {l3 : Int64} {l5 : Int32} {l6 : Int32} {l7 : Int32} {l9 : Int32} {d4 d8 : Option Value} {h : xv_H} (e : b163_95 F l0 l1 l2 l3 l5 l6 l7 l9 h = some (r, h')) : xx sc 163 95 [some (va_rf l0), some (.int l1), some (.int l2), some (.long l3), d4, some (.int l5), some (.int l6), some (.int l7), d8, some (.int l9)] [] h (fun v g => v = none ∧ g = h') := by
  unfold b163_95 at e
  refine xo_lload_n rfl rfl ?_
  refine d_static_i (av := [.long l3]) (rest := []) rfl ⟨by decide, by decide, by decide⟩ rfl rfl (by simp [xv_fit, va_rf_cat, cat_int, cat_long, cat_ref, cat_null, show xt_mx 134 = 2 from rfl, show xt_lg 134 = [0] from rfl]) (by simp [xv_room, va_rf_cat, cat_int, cat_long, cat_ref, cat_null]) (fun x0 h1 e1 => t134 e1) e (fun v1 h e => ?_)
  refine xo_iconstV (x := 1) rfl (by decide) ?_
  refine d_icmp_ne rfl rfl e (fun _ e => ?_) (fun _ e => ?_)
  · exact t163_150 e
  · exact t163_103 e
def b163_87 (F : Nat) (l0 : Option Nat) (l1 : Int32) : xm Unit := mb (nn l0) fun v1 => mb (vc 9 v1) fun _ => mb (m139 F v1 l1) fun _ => b163_155 F
theorem t163_87 {sc : Nat × (Nat → Int32)} {F : Nat} {r : Unit} {h' : xv_H} {l0 : Option Nat} {l1 : Int32} {d2 d3 d4 d5 d6 d7 d8 d9 : Option Value} {h : xv_H} (e : b163_87 F l0 l1 h = some (r, h')) : xx sc 163 87 [some (va_rf l0), some (.int l1), d2, d3, d4, d5, d6, d7, d8, d9] [] h (fun v g => v = none ∧ g = h') := by
  unfold b163_87 at e
  refine xo_aload_nQ (w := l0) rfl rfl ?_
  refine xo_iload_n rfl rfl ?_
  refine d_nn e (fun v1 g e1 => ?_)
  subst g
  replace e := e1
  clear e1
  refine d_virtual_v (av := [.int l1]) (rest := []) rfl ⟨by decide, by decide⟩ rfl rfl (by simp [xv_fit, va_rf_cat, cat_int, cat_long, cat_ref, cat_null, show xt_mx 139 = 2 from rfl, show xt_lg 139 = [] from rfl]) (by simp [xv_room, va_rf_cat, cat_int, cat_long, cat_ref, cat_null]) (fun x0 h1 e1 => t139 e1) e (fun _ h e => ?_)
  refine xo_goto rfl rfl ?_
  exact t163_155 e
def b163_79 (F : Nat) (l0 : Option Nat) (l1 : Int32) : xm Unit := mb (nn l0) fun v1 => mb (vc 9 v1) fun _ => mb (m144 F v1 l1) fun _ => b163_155 F
theorem t163_79 {sc : Nat × (Nat → Int32)} {F : Nat} {r : Unit} {h' : xv_H} {l0 : Option Nat} {l1 : Int32} {d2 d3 d4 d5 d6 d7 d8 d9 : Option Value} {h : xv_H} (e : b163_79 F l0 l1 h = some (r, h')) : xx sc 163 79 [some (va_rf l0), some (.int l1), d2, d3, d4, d5, d6, d7, d8, d9] [] h (fun v g => v = none ∧ g = h') := by
  unfold b163_79 at e
  refine xo_aload_nQ (w := l0) rfl rfl ?_
  refine xo_iload_n rfl rfl ?_
  refine d_nn e (fun v1 g e1 => ?_)
  subst g
  replace e := e1
  clear e1
  refine d_virtual_v (av := [.int l1]) (rest := []) rfl ⟨by decide, by decide⟩ rfl rfl (by simp [xv_fit, va_rf_cat, cat_int, cat_long, cat_ref, cat_null, show xt_mx 144 = 5 from rfl, show xt_lg 144 = [3] from rfl]) (by simp [xv_room, va_rf_cat, cat_int, cat_long, cat_ref, cat_null]) (fun x0 h1 e1 => t144 e1) e (fun _ h e => ?_)
  refine xo_goto rfl rfl ?_
  exact t163_155 e
def b163_48 (F : Nat) (l0 : Option Nat) (l1 : Int32) (l2 : Int32) (l3 : Int64) (l8 : Int32) (l9 : Int32) : xm Unit := mb (nn l0) fun v1 => mb (gr 922 v1) fun v2 => mb (nn v2) fun v3 => mb (si v3 (((24 : Int32) * l1) + l8) l2) fun _ => mb (gr 923 v1) fun v4 => mb (nn v4) fun v5 => mb (sl v5 (((24 : Int32) * l1) + l8) l3) fun _ => if l9 = 0 then b163_87 F (some v1) l1 else b163_79 F (some v1) l1
theorem t163_48 {sc : Nat × (Nat → Int32)} {F : Nat} {r : Unit} {h' : xv_H} {l0 : Option Nat} {l1 : Int32} {l2 : Int32} {l3 : Int64} {l8 : Int32} {l9 : Int32} {d4 d5 d6 d7 : Option Value} {h : xv_H} (e : b163_48 F l0 l1 l2 l3 l8 l9 h = some (r, h')) : xx sc 163 48 [some (va_rf l0), some (.int l1), some (.int l2), some (.long l3), d4, d5, d6, d7, some (.int l8), some (.int l9)] [] h (fun v g => v = none ∧ g = h') := by
  unfold b163_48 at e
  refine xo_aload_nQ (w := l0) rfl rfl ?_
  refine d_nn e (fun v1 g e1 => ?_)
  subst g
  replace e := e1
  clear e1
  refine d_getr rfl e (fun v2 e => ?_)
  refine xo_bipushV (x := 24) rfl (by decide) ?_
  refine xo_iload_n rfl rfl ?_
  refine xo_imul rfl ?_
  refine xo_iload rfl rfl ?_
  refine xo_iadd rfl ?_
  refine xo_iload_n rfl rfl ?_
  refine d_nn e (fun v3 g e1 => ?_)
  subst g
  replace e := e1
  clear e1
  refine d_iast rfl e (fun h e => ?_)
  refine xo_aload_nQ (w := (some v1)) rfl rfl ?_
  refine d_getr rfl e (fun v4 e => ?_)
  refine xo_bipushV (x := 24) rfl (by decide) ?_
  refine xo_iload_n rfl rfl ?_
  refine xo_imul rfl ?_
  refine xo_iload rfl rfl ?_
  refine xo_iadd rfl ?_
  refine xo_lload_n rfl rfl ?_
  refine d_nn e (fun v5 g e1 => ?_)
  subst g
  replace e := e1
  clear e1
  refine d_last rfl e (fun h e => ?_)
  refine xo_iload rfl rfl ?_
  refine d_if_eq rfl rfl e (fun _ e => ?_) (fun _ e => ?_)
  · exact t163_87 e
  · exact t163_79 e
def b163_38 (F : Nat) (s0 : Int32) (l0 : Option Nat) (l1 : Int32) (l2 : Int32) (l3 : Int64) (l5 : Int32) (l6 : Int32) (l7 : Int32) (l8 : Int32) : xm Unit := mb (m134 F l3) fun v1 => if ¬ v1 = (2 : Int32) then b163_95 F l0 l1 l2 l3 l5 l6 l7 s0 else b163_48 F l0 l1 l2 l3 l8 s0
theorem t163_38 {sc : Nat × (Nat → Int32)} {F : Nat} {r : Unit} {h' : xv_H} {s0 : Int32} {l0 : Option Nat} {l1 : Int32} {l2 : Int32} {l3 : Int64} {l5 : Int32} {l6 : Int32} {l7 : Int32} {l8 : Int32} {d4 d9 : Option Value} {h : xv_H} (e : b163_38 F s0 l0 l1 l2 l3 l5 l6 l7 l8 h = some (r, h')) : xx sc 163 38 [some (va_rf l0), some (.int l1), some (.int l2), some (.long l3), d4, some (.int l5), some (.int l6), some (.int l7), some (.int l8), d9] [.int s0] h (fun v g => v = none ∧ g = h') := by
  unfold b163_38 at e
  refine xo_istore rfl (Nat.le_of_ble_eq_true rfl) rfl ?_
  refine xo_lload_n rfl rfl ?_
  refine d_static_i (av := [.long l3]) (rest := []) rfl ⟨by decide, by decide, by decide⟩ rfl rfl (by simp [xv_fit, va_rf_cat, cat_int, cat_long, cat_ref, cat_null, show xt_mx 134 = 2 from rfl, show xt_lg 134 = [0] from rfl]) (by simp [xv_room, va_rf_cat, cat_int, cat_long, cat_ref, cat_null]) (fun x0 h1 e1 => t134 e1) e (fun v1 h e => ?_)
  refine xo_iconstV (x := 2) rfl (by decide) ?_
  refine d_icmp_ne rfl rfl e (fun _ e => ?_) (fun _ e => ?_)
  · exact t163_95 e
  · exact t163_48 e
def b163_37 (F : Nat) (l0 : Option Nat) (l1 : Int32) (l2 : Int32) (l3 : Int64) (l5 : Int32) (l6 : Int32) (l7 : Int32) (l8 : Int32) : xm Unit := b163_38 F (0 : Int32) l0 l1 l2 l3 l5 l6 l7 l8
theorem t163_37 {sc : Nat × (Nat → Int32)} {F : Nat} {r : Unit} {h' : xv_H} {l0 : Option Nat} {l1 : Int32} {l2 : Int32} {l3 : Int64} {l5 : Int32} {l6 : Int32} {l7 : Int32} {l8 : Int32} {d4 d9 : Option Value} {h : xv_H} (e : b163_37 F l0 l1 l2 l3 l5 l6 l7 l8 h = some (r, h')) : xx sc 163 37 [some (va_rf l0), some (.int l1), some (.int l2), some (.long l3), d4, some (.int l5), some (.int l6), some (.int l7), some (.int l8), d9] [] h (fun v g => v = none ∧ g = h') := by
  unfold b163_37 at e
  refine xo_iconstV (x := 0) rfl (by decide) ?_
  exact t163_38 e
def b163_33 (F : Nat) (l0 : Option Nat) (l1 : Int32) (l2 : Int32) (l3 : Int64) (l5 : Int32) (l6 : Int32) (l7 : Int32) (l8 : Int32) : xm Unit := b163_38 F (1 : Int32) l0 l1 l2 l3 l5 l6 l7 l8
theorem t163_33 {sc : Nat × (Nat → Int32)} {F : Nat} {r : Unit} {h' : xv_H} {l0 : Option Nat} {l1 : Int32} {l2 : Int32} {l3 : Int64} {l5 : Int32} {l6 : Int32} {l7 : Int32} {l8 : Int32} {d4 d9 : Option Value} {h : xv_H} (e : b163_33 F l0 l1 l2 l3 l5 l6 l7 l8 h = some (r, h')) : xx sc 163 33 [some (va_rf l0), some (.int l1), some (.int l2), some (.long l3), d4, some (.int l5), some (.int l6), some (.int l7), some (.int l8), d9] [] h (fun v g => v = none ∧ g = h') := by
  unfold b163_33 at e
  refine xo_iconstV (x := 1) rfl (by decide) ?_
  refine xo_goto rfl rfl ?_
  exact t163_38 e
def b163_20 (F : Nat) (l0 : Option Nat) (l1 : Int32) (l2 : Int32) (l3 : Int64) (l5 : Int32) (l6 : Int32) (l7 : Int32) (l8 : Int32) : xm Unit := mb (nn l0) fun v1 => mb (gr 928 v1) fun v2 => mb (nn v2) fun v3 => mb (li v3 l1) fun v4 => mb (m154 F l3) fun v5 => if v5 ≤ v4 then b163_37 F (some v1) l1 l2 l3 l5 l6 l7 l8 else b163_33 F (some v1) l1 l2 l3 l5 l6 l7 l8
theorem t163_20 {sc : Nat × (Nat → Int32)} {F : Nat} {r : Unit} {h' : xv_H} {l0 : Option Nat} {l1 : Int32} {l2 : Int32} {l3 : Int64} {l5 : Int32} {l6 : Int32} {l7 : Int32} {l8 : Int32} {d4 d9 : Option Value} {h : xv_H} (e : b163_20 F l0 l1 l2 l3 l5 l6 l7 l8 h = some (r, h')) : xx sc 163 20 [some (va_rf l0), some (.int l1), some (.int l2), some (.long l3), d4, some (.int l5), some (.int l6), some (.int l7), some (.int l8), d9] [] h (fun v g => v = none ∧ g = h') := by
  unfold b163_20 at e
  refine xo_aload_nQ (w := l0) rfl rfl ?_
  refine d_nn e (fun v1 g e1 => ?_)
  subst g
  replace e := e1
  clear e1
  refine d_getr rfl e (fun v2 e => ?_)
  refine xo_iload_n rfl rfl ?_
  refine d_nn e (fun v3 g e1 => ?_)
  subst g
  replace e := e1
  clear e1
  refine d_iald rfl e (fun v4 e => ?_)
  refine xo_lload_n rfl rfl ?_
  refine d_static_i (av := [.long l3]) (rest := [.int v4]) rfl ⟨by decide, by decide, by decide⟩ rfl rfl (by simp [xv_fit, va_rf_cat, cat_int, cat_long, cat_ref, cat_null, show xt_mx 154 = 2 from rfl, show xt_lg 154 = [0] from rfl]) (by simp [xv_room, va_rf_cat, cat_int, cat_long, cat_ref, cat_null]) (fun x0 h1 e1 => t154 e1) e (fun v5 h e => ?_)
  refine d_icmp_ge rfl rfl e (fun _ e => ?_) (fun _ e => ?_)
  · exact t163_37 e
  · exact t163_33 e
def b163_0 (F : Nat) (l0 : Option Nat) (l1 : Int32) (l2 : Int32) (l3 : Int64) (l5 : Int32) (l6 : Int32) (l7 : Int32) : xm Unit := mb (nn l0) fun v1 => mb (vc 9 v1) fun _ => mb (m145 F v1 l1) fun v2 => mb (gr 928 v1) fun v3 => mb (nn v3) fun v4 => mb (li v4 l1) fun v5 => mb (m149 F l3) fun v6 => if v5 < v6 then b163_37 F (some v1) l1 l2 l3 l5 l6 l7 v2 else b163_20 F (some v1) l1 l2 l3 l5 l6 l7 v2
theorem t163_0 {sc : Nat × (Nat → Int32)} {F : Nat} {r : Unit} {h' : xv_H} {l0 : Option Nat} {l1 : Int32} {l2 : Int32} {l3 : Int64} {l5 : Int32} {l6 : Int32} {l7 : Int32} {d4 d8 d9 : Option Value} {h : xv_H} (e : b163_0 F l0 l1 l2 l3 l5 l6 l7 h = some (r, h')) : xx sc 163 0 [some (va_rf l0), some (.int l1), some (.int l2), some (.long l3), d4, some (.int l5), some (.int l6), some (.int l7), d8, d9] [] h (fun v g => v = none ∧ g = h') := by
  unfold b163_0 at e
  refine xo_aload_nQ (w := l0) rfl rfl ?_
  refine xo_iload_n rfl rfl ?_
  refine d_nn e (fun v1 g e1 => ?_)
  subst g
  replace e := e1
  clear e1
  refine d_virtual_i (av := [.int l1]) (rest := []) rfl ⟨by decide, by decide⟩ rfl rfl (by simp [xv_fit, va_rf_cat, cat_int, cat_long, cat_ref, cat_null, show xt_mx 145 = 2 from rfl, show xt_lg 145 = [] from rfl]) (by simp [xv_room, va_rf_cat, cat_int, cat_long, cat_ref, cat_null]) (fun x0 h1 e1 => t145 e1) e (fun v2 h e => ?_)
  refine xo_istore rfl (Nat.le_of_ble_eq_true rfl) rfl ?_
  refine xo_aload_nQ (w := (some v1)) rfl rfl ?_
  refine d_getr rfl e (fun v3 e => ?_)
  refine xo_iload_n rfl rfl ?_
  refine d_nn e (fun v4 g e1 => ?_)
  subst g
  replace e := e1
  clear e1
  refine d_iald rfl e (fun v5 e => ?_)
  refine xo_lload_n rfl rfl ?_
  refine d_static_i (av := [.long l3]) (rest := [.int v5]) rfl ⟨by decide, by decide, by decide⟩ rfl rfl (by simp [xv_fit, va_rf_cat, cat_int, cat_long, cat_ref, cat_null, show xt_mx 149 = 2 from rfl, show xt_lg 149 = [0] from rfl]) (by simp [xv_room, va_rf_cat, cat_int, cat_long, cat_ref, cat_null]) (fun x0 h1 e1 => t149 e1) e (fun v6 h e => ?_)
  refine d_icmp_lt rfl rfl e (fun _ e => ?_) (fun _ e => ?_)
  · exact t163_37 e
  · exact t163_20 e
def m163 (F : Nat) (this : Nat) (p0 : Int32) (p1 : Int32) (p2 : Int64) (p3 : Int32) (p4 : Int32) (p5 : Int32) : xm Unit := b163_0 F (some this) p0 p1 p2 p3 p4 p5
theorem t163 {sc : Nat × (Nat → Int32)} {F : Nat} {this : Nat} {p0 : Int32} {p1 : Int32} {p2 : Int64} {p3 : Int32} {p4 : Int32} {p5 : Int32} {h : xv_H} {r : Unit} {h' : xv_H} (e : m163 F this p0 p1 p2 p3 p4 p5 h = some (r, h')) : xr sc 163 [.ref this, .int p0, .int p1, .long p2, .int p3, .int p4, .int p5] h (fun v g => v = none ∧ g = h') := by
  have e0 : xv_ent (xt_mx 163) [.ref this, .int p0, .int p1, .long p2, .int p3, .int p4, .int p5] = [some (va_rf (some this)), some (.int p0), some (.int p1), some (.long p2), none, some (.int p3), some (.int p4), some (.int p5), none, none] := by simp [xv_ent, xv_sl, va_rf_cat, cat_int, cat_long, cat_ref, cat_null, va_rf_some, show xt_mx 163 = 10 from rfl]
  unfold xr
  rw [e0]
  exact t163_0 e
