-- CellTreeModel.agreed(IIIJIII)V
def b162_173 (F : Nat) : xm Unit := mr ()
theorem t162_173 {sc : Nat × (Nat → Int32)} {F : Nat} {r : Unit} {h' : xv_H} {d0 d1 d2 d3 d4 d5 d6 d7 d8 d9 d10 : Option Value} {h : xv_H} (e : b162_173 F h = some (r, h')) : xx sc 162 173 [d0, d1, d2, d3, d4, d5, d6, d7, d8, d9, d10] [] h (fun v g => v = none ∧ g = h') := by
  unfold b162_173 at e
  exact d_ret rfl e
def b162_168 (F : Nat) (l0 : Option Nat) (l1 : Int32) : xm Unit := mb (nn l0) fun v1 => mb (vc 9 v1) fun _ => mb (m166 F v1 l1) fun _ => b162_173 F
theorem t162_168 {sc : Nat × (Nat → Int32)} {F : Nat} {r : Unit} {h' : xv_H} {l0 : Option Nat} {l1 : Int32} {d2 d3 d4 d5 d6 d7 d8 d9 d10 : Option Value} {h : xv_H} (e : b162_168 F l0 l1 h = some (r, h')) : xx sc 162 168 [some (va_rf l0), some (.int l1), d2, d3, d4, d5, d6, d7, d8, d9, d10] [] h (fun v g => v = none ∧ g = h') := by
  unfold b162_168 at e
  refine xo_aload_nQ (w := l0) rfl rfl ?_
  refine xo_iload_n rfl rfl ?_
  refine d_nn e (fun v1 g e1 => ?_)
  subst g
  replace e := e1
  clear e1
  refine d_virtual_v (av := [.int l1]) (rest := []) rfl ⟨by decide, by decide⟩ rfl rfl (by simp [xv_fit, va_rf_cat, cat_int, cat_long, cat_ref, cat_null, show xt_mx 166 = 2 from rfl, show xt_lg 166 = [] from rfl]) (by simp [xv_room, va_rf_cat, cat_int, cat_long, cat_ref, cat_null]) (fun x0 h1 e1 => t166 e1) e (fun _ h e => ?_)
  exact t162_173 e
def b162_155 (F : Nat) (l0 : Option Nat) (l1 : Int32) : xm Unit := mb (nn l0) fun v1 => mb (vc 9 v1) fun _ => mb (m140 F v1 l1) fun _ => mb (vc 9 v1) fun _ => mb (m142 F v1 l1) fun _ => b162_173 F
theorem t162_155 {sc : Nat × (Nat → Int32)} {F : Nat} {r : Unit} {h' : xv_H} {l0 : Option Nat} {l1 : Int32} {d2 d3 d4 d5 d6 d7 d8 d9 d10 : Option Value} {h : xv_H} (e : b162_155 F l0 l1 h = some (r, h')) : xx sc 162 155 [some (va_rf l0), some (.int l1), d2, d3, d4, d5, d6, d7, d8, d9, d10] [] h (fun v g => v = none ∧ g = h') := by
  unfold b162_155 at e
  refine xo_aload_nQ (w := l0) rfl rfl ?_
  refine xo_iload_n rfl rfl ?_
  refine d_nn e (fun v1 g e1 => ?_)
  subst g
  replace e := e1
  clear e1
  refine d_virtual_v (av := [.int l1]) (rest := []) rfl ⟨by decide, by decide⟩ rfl rfl (by simp [xv_fit, va_rf_cat, cat_int, cat_long, cat_ref, cat_null, show xt_mx 140 = 3 from rfl, show xt_lg 140 = [] from rfl]) (by simp [xv_room, va_rf_cat, cat_int, cat_long, cat_ref, cat_null]) (fun x0 h1 e1 => t140 e1) e (fun _ h e => ?_)
  refine xo_aload_nQ (w := (some v1)) rfl rfl ?_
  refine xo_iload_n rfl rfl ?_
  refine d_virtual_v (av := [.int l1]) (rest := []) rfl ⟨by decide, by decide⟩ rfl rfl (by simp [xv_fit, va_rf_cat, cat_int, cat_long, cat_ref, cat_null, show xt_mx 142 = 2 from rfl, show xt_lg 142 = [] from rfl]) (by simp [xv_room, va_rf_cat, cat_int, cat_long, cat_ref, cat_null]) (fun x0 h1 e1 => t142 e1) e (fun _ h e => ?_)
  refine xo_goto rfl rfl ?_
  exact t162_173 e
def b162_145 (F : Nat) (l0 : Option Nat) (l1 : Int32) : xm Unit := mb (nn l0) fun v1 => mb (gr 936 v1) fun v2 => mb (nn v2) fun v3 => mb (li v3 l1) fun v4 => if ¬ v4 = (3 : Int32) then b162_168 F (some v1) l1 else b162_155 F (some v1) l1
theorem t162_145 {sc : Nat × (Nat → Int32)} {F : Nat} {r : Unit} {h' : xv_H} {l0 : Option Nat} {l1 : Int32} {d2 d3 d4 d5 d6 d7 d8 d9 d10 : Option Value} {h : xv_H} (e : b162_145 F l0 l1 h = some (r, h')) : xx sc 162 145 [some (va_rf l0), some (.int l1), d2, d3, d4, d5, d6, d7, d8, d9, d10] [] h (fun v g => v = none ∧ g = h') := by
  unfold b162_145 at e
  refine xo_aload_nQ (w := l0) rfl rfl ?_
  refine d_nn e (fun v1 g e1 => ?_)
  subst g
  replace e := e1
  clear e1
  refine d_getr rfl e (fun v2 e => ?_)
  refine xo_iload_n rfl rfl ?_
  refine d_nn e (fun v3 g e1 => ?_)
  subst g
  replace e := e1
  clear e1
  refine d_iald rfl e (fun v4 e => ?_)
  refine xo_iconstV (x := 3) rfl (by decide) ?_
  refine d_icmp_ne rfl rfl e (fun _ e => ?_) (fun _ e => ?_)
  · exact t162_168 e
  · exact t162_155 e
def b162_128 (F : Nat) (l0 : Option Nat) (l1 : Int32) (l3 : Int32) (l4 : Int64) (l6 : Int32) (l7 : Int32) (l8 : Int32) : xm Unit := mb (nn l0) fun v1 => mb (vc 9 v1) fun _ => mb (m163 F v1 l1 l3 l4 l6 l7 l8) fun _ => b162_173 F
theorem t162_128 {sc : Nat × (Nat → Int32)} {F : Nat} {r : Unit} {h' : xv_H} {l0 : Option Nat} {l1 : Int32} {l3 : Int32} {l4 : Int64} {l6 : Int32} {l7 : Int32} {l8 : Int32} {d2 d5 d9 d10 : Option Value} {h : xv_H} (e : b162_128 F l0 l1 l3 l4 l6 l7 l8 h = some (r, h')) : xx sc 162 128 [some (va_rf l0), some (.int l1), d2, some (.int l3), some (.long l4), d5, some (.int l6), some (.int l7), some (.int l8), d9, d10] [] h (fun v g => v = none ∧ g = h') := by
  unfold b162_128 at e
  refine xo_aload_nQ (w := l0) rfl rfl ?_
  refine xo_iload_n rfl rfl ?_
  refine xo_iload_n rfl rfl ?_
  refine xo_lload rfl rfl ?_
  refine xo_iload rfl rfl ?_
  refine xo_iload rfl rfl ?_
  refine xo_iload rfl rfl ?_
  refine d_nn e (fun v1 g e1 => ?_)
  subst g
  replace e := e1
  clear e1
  refine d_virtual_v (av := [.int l1, .int l3, .long l4, .int l6, .int l7, .int l8]) (rest := []) rfl ⟨by decide, by decide⟩ rfl rfl (by simp [xv_fit, va_rf_cat, cat_int, cat_long, cat_ref, cat_null, show xt_mx 163 = 10 from rfl, show xt_lg 163 = [3] from rfl]) (by simp [xv_room, va_rf_cat, cat_int, cat_long, cat_ref, cat_null]) (fun x0 h1 e1 => t163 e1) e (fun _ h e => ?_)
  refine xo_goto rfl rfl ?_
  exact t162_173 e
def b162_118 (F : Nat) (l0 : Option Nat) (l1 : Int32) (l3 : Int32) (l4 : Int64) (l6 : Int32) (l7 : Int32) (l8 : Int32) : xm Unit := mb (nn l0) fun v1 => mb (gr 936 v1) fun v2 => mb (nn v2) fun v3 => mb (li v3 l1) fun v4 => if ¬ v4 = (1 : Int32) then b162_145 F (some v1) l1 else b162_128 F (some v1) l1 l3 l4 l6 l7 l8
theorem t162_118 {sc : Nat × (Nat → Int32)} {F : Nat} {r : Unit} {h' : xv_H} {l0 : Option Nat} {l1 : Int32} {l3 : Int32} {l4 : Int64} {l6 : Int32} {l7 : Int32} {l8 : Int32} {d2 d5 d9 d10 : Option Value} {h : xv_H} (e : b162_118 F l0 l1 l3 l4 l6 l7 l8 h = some (r, h')) : xx sc 162 118 [some (va_rf l0), some (.int l1), d2, some (.int l3), some (.long l4), d5, some (.int l6), some (.int l7), some (.int l8), d9, d10] [] h (fun v g => v = none ∧ g = h') := by
  unfold b162_118 at e
  refine xo_aload_nQ (w := l0) rfl rfl ?_
  refine d_nn e (fun v1 g e1 => ?_)
  subst g
  replace e := e1
  clear e1
  refine d_getr rfl e (fun v2 e => ?_)
  refine xo_iload_n rfl rfl ?_
  refine d_nn e (fun v3 g e1 => ?_)
  subst g
  replace e := e1
  clear e1
  refine d_iald rfl e (fun v4 e => ?_)
  refine xo_iconstV (x := 1) rfl (by decide) ?_
  refine d_icmp_ne rfl rfl e (fun _ e => ?_) (fun _ e => ?_)
  · exact t162_145 e
  · exact t162_128 e
def b162_112 (k75 : Option Nat → Int32 → Int32 → Int64 → Int32 → Int32 → Int32 → Int32 → Int32 → xm Unit) (F : Nat) (l0 : Option Nat) (l1 : Int32) (l3 : Int32) (l4 : Int64) (l6 : Int32) (l7 : Int32) (l8 : Int32) (l9 : Int32) (l10 : Int32) : xm Unit := k75 l0 l1 l3 l4 l6 l7 l8 l9 (l10 + (1 : Int32))
theorem t162_112 {sc : Nat × (Nat → Int32)} {F : Nat} {r : Unit} {h' : xv_H} {k75 : Option Nat → Int32 → Int32 → Int64 → Int32 → Int32 → Int32 → Int32 → Int32 → xm Unit} (hk75 : ∀ (l0 : Option Nat) (l1 : Int32) (l3 : Int32) (l4 : Int64) (l6 : Int32) (l7 : Int32) (l8 : Int32) (l9 : Int32) (l10 : Int32) (d2 d5 : Option Value) (h : xv_H), k75 l0 l1 l3 l4 l6 l7 l8 l9 l10 h = some (r, h') → xx sc 162 75 [some (va_rf l0), some (.int l1), d2, some (.int l3), some (.long l4), d5, some (.int l6), some (.int l7), some (.int l8), some (.int l9), some (.int l10)] [] h (fun v g => v = none ∧ g = h')) {l0 : Option Nat} {l1 : Int32} {l3 : Int32} {l4 : Int64} {l6 : Int32} {l7 : Int32} {l8 : Int32} {l9 : Int32} {l10 : Int32} {d2 d5 : Option Value} {h : xv_H} (e : b162_112 k75 F l0 l1 l3 l4 l6 l7 l8 l9 l10 h = some (r, h')) : xx sc 162 112 [some (va_rf l0), some (.int l1), d2, some (.int l3), some (.long l4), d5, some (.int l6), some (.int l7), some (.int l8), some (.int l9), some (.int l10)] [] h (fun v g => v = none ∧ g = h') := by
  unfold b162_112 at e
  refine xo_iincV (z := 1) rfl (by decide) rfl (Nat.le_of_ble_eq_true rfl) rfl ?_
  refine xo_goto rfl rfl ?_
  exact hk75 _ _ _ _ _ _ _ _ _ _ _ _ e
def b162_102 (k75 : Option Nat → Int32 → Int32 → Int64 → Int32 → Int32 → Int32 → Int32 → Int32 → xm Unit) (F : Nat) (l0 : Option Nat) (l1 : Int32) (l3 : Int32) (l4 : Int64) (l6 : Int32) (l7 : Int32) (l8 : Int32) (l9 : Int32) (l10 : Int32) : xm Unit := mb (nn l0) fun v1 => mb (vc 9 v1) fun _ => mb (m132 F v1 (4 : Int32) l9 l10) fun v2 => b162_112 k75 F (some v1) l1 l3 l4 l6 l7 l8 l9 l10
theorem t162_102 {sc : Nat × (Nat → Int32)} {F : Nat} {r : Unit} {h' : xv_H} {k75 : Option Nat → Int32 → Int32 → Int64 → Int32 → Int32 → Int32 → Int32 → Int32 → xm Unit} (hk75 : ∀ (l0 : Option Nat) (l1 : Int32) (l3 : Int32) (l4 : Int64) (l6 : Int32) (l7 : Int32) (l8 : Int32) (l9 : Int32) (l10 : Int32) (d2 d5 : Option Value) (h : xv_H), k75 l0 l1 l3 l4 l6 l7 l8 l9 l10 h = some (r, h') → xx sc 162 75 [some (va_rf l0), some (.int l1), d2, some (.int l3), some (.long l4), d5, some (.int l6), some (.int l7), some (.int l8), some (.int l9), some (.int l10)] [] h (fun v g => v = none ∧ g = h')) {l0 : Option Nat} {l1 : Int32} {l3 : Int32} {l4 : Int64} {l6 : Int32} {l7 : Int32} {l8 : Int32} {l9 : Int32} {l10 : Int32} {d2 d5 : Option Value} {h : xv_H} (e : b162_102 k75 F l0 l1 l3 l4 l6 l7 l8 l9 l10 h = some (r, h')) : xx sc 162 102 [some (va_rf l0), some (.int l1), d2, some (.int l3), some (.long l4), d5, some (.int l6), some (.int l7), some (.int l8), some (.int l9), some (.int l10)] [] h (fun v g => v = none ∧ g = h') := by
  unfold b162_102 at e
  refine xo_aload_nQ (w := l0) rfl rfl ?_
  refine xo_iconstV (x := 4) rfl (by decide) ?_
  refine xo_iload rfl rfl ?_
  refine xo_iload rfl rfl ?_
  refine d_nn e (fun v1 g e1 => ?_)
  subst g
  replace e := e1
  clear e1
  refine d_virtual_i (av := [.int (4 : Int32), .int l9, .int l10]) (rest := []) rfl ⟨by decide, by decide⟩ rfl rfl (by simp [xv_fit, va_rf_cat, cat_int, cat_long, cat_ref, cat_null, show xt_mx 132 = 4 from rfl, show xt_lg 132 = [] from rfl]) (by simp [xv_room, va_rf_cat, cat_int, cat_long, cat_ref, cat_null]) (fun x0 h1 e1 => t132 e1) e (fun v2 h e => ?_)
  refine xo_pop rfl (by first | rfl | exact va_rf_cat _) ?_
  exact t162_112 hk75 e
def b162_91 (k75 : Option Nat → Int32 → Int32 → Int64 → Int32 → Int32 → Int32 → Int32 → Int32 → xm Unit) (F : Nat) (l0 : Option Nat) (l1 : Int32) (l3 : Int32) (l4 : Int64) (l6 : Int32) (l7 : Int32) (l8 : Int32) (l9 : Int32) (l10 : Int32) : xm Unit := mb (nn l0) fun v1 => mb (vc 9 v1) fun _ => mb (m136 F v1 l9 l10) fun v2 => if v2 = 0 then b162_112 k75 F (some v1) l1 l3 l4 l6 l7 l8 l9 l10 else b162_102 k75 F (some v1) l1 l3 l4 l6 l7 l8 l9 l10
theorem t162_91 {sc : Nat × (Nat → Int32)} {F : Nat} {r : Unit} {h' : xv_H} {k75 : Option Nat → Int32 → Int32 → Int64 → Int32 → Int32 → Int32 → Int32 → Int32 → xm Unit} (hk75 : ∀ (l0 : Option Nat) (l1 : Int32) (l3 : Int32) (l4 : Int64) (l6 : Int32) (l7 : Int32) (l8 : Int32) (l9 : Int32) (l10 : Int32) (d2 d5 : Option Value) (h : xv_H), k75 l0 l1 l3 l4 l6 l7 l8 l9 l10 h = some (r, h') → xx sc 162 75 [some (va_rf l0), some (.int l1), d2, some (.int l3), some (.long l4), d5, some (.int l6), some (.int l7), some (.int l8), some (.int l9), some (.int l10)] [] h (fun v g => v = none ∧ g = h')) {l0 : Option Nat} {l1 : Int32} {l3 : Int32} {l4 : Int64} {l6 : Int32} {l7 : Int32} {l8 : Int32} {l9 : Int32} {l10 : Int32} {d2 d5 : Option Value} {h : xv_H} (e : b162_91 k75 F l0 l1 l3 l4 l6 l7 l8 l9 l10 h = some (r, h')) : xx sc 162 91 [some (va_rf l0), some (.int l1), d2, some (.int l3), some (.long l4), d5, some (.int l6), some (.int l7), some (.int l8), some (.int l9), some (.int l10)] [] h (fun v g => v = none ∧ g = h') := by
  unfold b162_91 at e
  refine xo_aload_nQ (w := l0) rfl rfl ?_
  refine xo_iload rfl rfl ?_
  refine xo_iload rfl rfl ?_
  refine d_nn e (fun v1 g e1 => ?_)
  subst g
  replace e := e1
  clear e1
  refine d_virtual_i (av := [.int l9, .int l10]) (rest := []) rfl ⟨by decide, by decide⟩ rfl rfl (by simp [xv_fit, va_rf_cat, cat_int, cat_long, cat_ref, cat_null, show xt_mx 136 = 5 from rfl, show xt_lg 136 = [] from rfl]) (by simp [xv_room, va_rf_cat, cat_int, cat_long, cat_ref, cat_null]) (fun x0 h1 e1 => t136 e1) e (fun v2 h e => ?_)
  refine d_if_eq rfl rfl e (fun _ e => ?_) (fun _ e => ?_)
  · exact t162_112 hk75 e
  · exact t162_102 hk75 e
def b162_81 (k75 : Option Nat → Int32 → Int32 → Int64 → Int32 → Int32 → Int32 → Int32 → Int32 → xm Unit) (F : Nat) (l0 : Option Nat) (l1 : Int32) (l3 : Int32) (l4 : Int64) (l6 : Int32) (l7 : Int32) (l8 : Int32) (l9 : Int32) (l10 : Int32) : xm Unit := mb (nn l0) fun v1 => mb (vc 9 v1) fun _ => mb (m135 F v1 l9) fun v2 => if v2 ≤ (1 : Int32) then b162_118 F (some v1) l1 l3 l4 l6 l7 l8 else b162_91 k75 F (some v1) l1 l3 l4 l6 l7 l8 l9 l10
theorem t162_81 {sc : Nat × (Nat → Int32)} {F : Nat} {r : Unit} {h' : xv_H} {k75 : Option Nat → Int32 → Int32 → Int64 → Int32 → Int32 → Int32 → Int32 → Int32 → xm Unit} (hk75 : ∀ (l0 : Option Nat) (l1 : Int32) (l3 : Int32) (l4 : Int64) (l6 : Int32) (l7 : Int32) (l8 : Int32) (l9 : Int32) (l10 : Int32) (d2 d5 : Option Value) (h : xv_H), k75 l0 l1 l3 l4 l6 l7 l8 l9 l10 h = some (r, h') → xx sc 162 75 [some (va_rf l0), some (.int l1), d2, some (.int l3), some (.long l4), d5, some (.int l6), some (.int l7), some (.int l8), some (.int l9), some (.int l10)] [] h (fun v g => v = none ∧ g = h')) {l0 : Option Nat} {l1 : Int32} {l3 : Int32} {l4 : Int64} {l6 : Int32} {l7 : Int32} {l8 : Int32} {l9 : Int32} {l10 : Int32} {d2 d5 : Option Value} {h : xv_H} (e : b162_81 k75 F l0 l1 l3 l4 l6 l7 l8 l9 l10 h = some (r, h')) : xx sc 162 81 [some (va_rf l0), some (.int l1), d2, some (.int l3), some (.long l4), d5, some (.int l6), some (.int l7), some (.int l8), some (.int l9), some (.int l10)] [] h (fun v g => v = none ∧ g = h') := by
  unfold b162_81 at e
  refine xo_aload_nQ (w := l0) rfl rfl ?_
  refine xo_iload rfl rfl ?_
  refine d_nn e (fun v1 g e1 => ?_)
  subst g
  replace e := e1
  clear e1
  refine d_virtual_i (av := [.int l9]) (rest := []) rfl ⟨by decide, by decide⟩ rfl rfl (by simp [xv_fit, va_rf_cat, cat_int, cat_long, cat_ref, cat_null, show xt_mx 135 = 2 from rfl, show xt_lg 135 = [] from rfl]) (by simp [xv_room, va_rf_cat, cat_int, cat_long, cat_ref, cat_null]) (fun x0 h1 e1 => t135 e1) e (fun v2 h e => ?_)
  refine xo_iconstV (x := 1) rfl (by decide) ?_
  refine d_icmp_le rfl rfl e (fun _ e => ?_) (fun _ e => ?_)
  · exact t162_118 e
  · exact t162_91 hk75 e
def b162_75 (F : Nat) : Nat → Option Nat → Int32 → Int32 → Int64 → Int32 → Int32 → Int32 → Int32 → Int32 → xm Unit
  | 0, _, _, _, _, _, _, _, _, _ => fun _ => none
  | f + 1, l0, l1, l3, l4, l6, l7, l8, l9, l10 => if (3 : Int32) ≤ l10 then b162_118 F l0 l1 l3 l4 l6 l7 l8 else b162_81 (b162_75 F f) F l0 l1 l3 l4 l6 l7 l8 l9 l10
theorem t162_75 {sc : Nat × (Nat → Int32)} {F : Nat} {r : Unit} {h' : xv_H} : ∀ (f : Nat) (l0 : Option Nat) (l1 : Int32) (l3 : Int32) (l4 : Int64) (l6 : Int32) (l7 : Int32) (l8 : Int32) (l9 : Int32) (l10 : Int32) (d2 d5 : Option Value) (h : xv_H), b162_75 F f l0 l1 l3 l4 l6 l7 l8 l9 l10 h = some (r, h') → xx sc 162 75 [some (va_rf l0), some (.int l1), d2, some (.int l3), some (.long l4), d5, some (.int l6), some (.int l7), some (.int l8), some (.int l9), some (.int l10)] [] h (fun v g => v = none ∧ g = h') := by
  intro f
  induction f with
  | zero => intro l0 l1 l3 l4 l6 l7 l8 l9 l10 d2 d5 h e; cases e
  | succ f ih =>
    intro l0 l1 l3 l4 l6 l7 l8 l9 l10 d2 d5 h e
    unfold b162_75 at e
    refine xo_iload rfl rfl ?_
    refine xo_iconstV (x := 3) rfl (by decide) ?_
    refine d_icmp_ge rfl rfl e (fun _ e => ?_) (fun _ e => ?_)
    · exact t162_118 e
    · exact t162_81 (fun a0 a1 a2 a3 a4 a5 a6 a7 a8 a9 a10 h e => ih a0 a1 a2 a3 a4 a5 a6 a7 a8 a9 a10 h e) e
def b162_65 (F : Nat) (l0 : Option Nat) (l1 : Int32) (l3 : Int32) (l4 : Int64) (l6 : Int32) (l7 : Int32) (l8 : Int32) (l9 : Int32) : xm Unit := mb (nn l0) fun v1 => mb (gr 934 v1) fun v2 => mb (nn v2) fun v3 => mb (si v3 l1 (0 : Int32)) fun _ => b162_75 F F (some v1) l1 l3 l4 l6 l7 l8 l9 (0 : Int32)
theorem t162_65 {sc : Nat × (Nat → Int32)} {F : Nat} {r : Unit} {h' : xv_H} {l0 : Option Nat} {l1 : Int32} {l3 : Int32} {l4 : Int64} {l6 : Int32} {l7 : Int32} {l8 : Int32} {l9 : Int32} {d2 d5 d10 : Option Value} {h : xv_H} (e : b162_65 F l0 l1 l3 l4 l6 l7 l8 l9 h = some (r, h')) : xx sc 162 65 [some (va_rf l0), some (.int l1), d2, some (.int l3), some (.long l4), d5, some (.int l6), some (.int l7), some (.int l8), some (.int l9), d10] [] h (fun v g => v = none ∧ g = h') := by
  unfold b162_65 at e
  refine xo_aload_nQ (w := l0) rfl rfl ?_
  refine d_nn e (fun v1 g e1 => ?_)
  subst g
  replace e := e1
  clear e1
  refine d_getr rfl e (fun v2 e => ?_)
  refine xo_iload_n rfl rfl ?_
  refine xo_iconstV (x := 0) rfl (by decide) ?_
  refine d_nn e (fun v3 g e1 => ?_)
  subst g
  replace e := e1
  clear e1
  refine d_iast rfl e (fun h e => ?_)
  refine xo_iconstV (x := 0) rfl (by decide) ?_
  refine xo_istore rfl (Nat.le_of_ble_eq_true rfl) rfl ?_
  exact t162_75 F _ _ _ _ _ _ _ _ _ _ _ _ e
def b162_59 (k27 : Option Nat → Int32 → Int32 → Int64 → Int32 → Int32 → Int32 → Int32 → Int32 → xm Unit) (F : Nat) (l0 : Option Nat) (l1 : Int32) (l3 : Int32) (l4 : Int64) (l6 : Int32) (l7 : Int32) (l8 : Int32) (l9 : Int32) (l10 : Int32) : xm Unit := k27 l0 l1 l3 l4 l6 l7 l8 l9 (l10 + (1 : Int32))
theorem t162_59 {sc : Nat × (Nat → Int32)} {F : Nat} {r : Unit} {h' : xv_H} {k27 : Option Nat → Int32 → Int32 → Int64 → Int32 → Int32 → Int32 → Int32 → Int32 → xm Unit} (hk27 : ∀ (l0 : Option Nat) (l1 : Int32) (l3 : Int32) (l4 : Int64) (l6 : Int32) (l7 : Int32) (l8 : Int32) (l9 : Int32) (l10 : Int32) (d2 d5 : Option Value) (h : xv_H), k27 l0 l1 l3 l4 l6 l7 l8 l9 l10 h = some (r, h') → xx sc 162 27 [some (va_rf l0), some (.int l1), d2, some (.int l3), some (.long l4), d5, some (.int l6), some (.int l7), some (.int l8), some (.int l9), some (.int l10)] [] h (fun v g => v = none ∧ g = h')) {l0 : Option Nat} {l1 : Int32} {l3 : Int32} {l4 : Int64} {l6 : Int32} {l7 : Int32} {l8 : Int32} {l9 : Int32} {l10 : Int32} {d2 d5 : Option Value} {h : xv_H} (e : b162_59 k27 F l0 l1 l3 l4 l6 l7 l8 l9 l10 h = some (r, h')) : xx sc 162 59 [some (va_rf l0), some (.int l1), d2, some (.int l3), some (.long l4), d5, some (.int l6), some (.int l7), some (.int l8), some (.int l9), some (.int l10)] [] h (fun v g => v = none ∧ g = h') := by
  unfold b162_59 at e
  refine xo_iincV (z := 1) rfl (by decide) rfl (Nat.le_of_ble_eq_true rfl) rfl ?_
  refine xo_goto rfl rfl ?_
  exact hk27 _ _ _ _ _ _ _ _ _ _ _ _ e
def b162_58 (k27 : Option Nat → Int32 → Int32 → Int64 → Int32 → Int32 → Int32 → Int32 → Int32 → xm Unit) (F : Nat) : xm Unit := mr ()
theorem t162_58 {sc : Nat × (Nat → Int32)} {F : Nat} {r : Unit} {h' : xv_H} {k27 : Option Nat → Int32 → Int32 → Int64 → Int32 → Int32 → Int32 → Int32 → Int32 → xm Unit} (hk27 : ∀ (l0 : Option Nat) (l1 : Int32) (l3 : Int32) (l4 : Int64) (l6 : Int32) (l7 : Int32) (l8 : Int32) (l9 : Int32) (l10 : Int32) (d2 d5 : Option Value) (h : xv_H), k27 l0 l1 l3 l4 l6 l7 l8 l9 l10 h = some (r, h') → xx sc 162 27 [some (va_rf l0), some (.int l1), d2, some (.int l3), some (.long l4), d5, some (.int l6), some (.int l7), some (.int l8), some (.int l9), some (.int l10)] [] h (fun v g => v = none ∧ g = h')) {d0 d1 d2 d3 d4 d5 d6 d7 d8 d9 d10 : Option Value} {h : xv_H} (e : b162_58 k27 F h = some (r, h')) : xx sc 162 58 [d0, d1, d2, d3, d4, d5, d6, d7, d8, d9, d10] [] h (fun v g => v = none ∧ g = h') := by
  unfold b162_58 at e
  exact d_ret rfl e
def b162_44 (k27 : Option Nat → Int32 → Int32 → Int64 → Int32 → Int32 → Int32 → Int32 → Int32 → xm Unit) (F : Nat) (l0 : Option Nat) (l1 : Int32) (l3 : Int32) (l4 : Int64) (l6 : Int32) (l7 : Int32) (l8 : Int32) (l9 : Int32) (l10 : Int32) : xm Unit := mb (nn l0) fun v1 => mb (gr 935 v1) fun v2 => mb (nn v2) fun v3 => mb (li v3 l1) fun v4 => if ¬ ((v4 >>> (l10 &&& 31)) &&& (1 : Int32)) = 0 then b162_59 k27 F (some v1) l1 l3 l4 l6 l7 l8 l9 l10 else b162_58 k27 F
theorem t162_44 {sc : Nat × (Nat → Int32)} {F : Nat} {r : Unit} {h' : xv_H} {k27 : Option Nat → Int32 → Int32 → Int64 → Int32 → Int32 → Int32 → Int32 → Int32 → xm Unit} (hk27 : ∀ (l0 : Option Nat) (l1 : Int32) (l3 : Int32) (l4 : Int64) (l6 : Int32) (l7 : Int32) (l8 : Int32) (l9 : Int32) (l10 : Int32) (d2 d5 : Option Value) (h : xv_H), k27 l0 l1 l3 l4 l6 l7 l8 l9 l10 h = some (r, h') → xx sc 162 27 [some (va_rf l0), some (.int l1), d2, some (.int l3), some (.long l4), d5, some (.int l6), some (.int l7), some (.int l8), some (.int l9), some (.int l10)] [] h (fun v g => v = none ∧ g = h')) {l0 : Option Nat} {l1 : Int32} {l3 : Int32} {l4 : Int64} {l6 : Int32} {l7 : Int32} {l8 : Int32} {l9 : Int32} {l10 : Int32} {d2 d5 : Option Value} {h : xv_H} (e : b162_44 k27 F l0 l1 l3 l4 l6 l7 l8 l9 l10 h = some (r, h')) : xx sc 162 44 [some (va_rf l0), some (.int l1), d2, some (.int l3), some (.long l4), d5, some (.int l6), some (.int l7), some (.int l8), some (.int l9), some (.int l10)] [] h (fun v g => v = none ∧ g = h') := by
  unfold b162_44 at e
  refine xo_aload_nQ (w := l0) rfl rfl ?_
  refine d_nn e (fun v1 g e1 => ?_)
  subst g
  replace e := e1
  clear e1
  refine d_getr rfl e (fun v2 e => ?_)
  refine xo_iload_n rfl rfl ?_
  refine d_nn e (fun v3 g e1 => ?_)
  subst g
  replace e := e1
  clear e1
  refine d_iald rfl e (fun v4 e => ?_)
  refine xo_iload rfl rfl ?_
  refine xo_ishr rfl ?_
  refine xo_iconstV (x := 1) rfl (by decide) ?_
  refine xo_iand rfl ?_
  refine d_if_ne rfl rfl e (fun _ e => ?_) (fun _ e => ?_)
  · exact t162_59 hk27 e
  · exact t162_58 hk27 e
def b162_33 (k27 : Option Nat → Int32 → Int32 → Int64 → Int32 → Int32 → Int32 → Int32 → Int32 → xm Unit) (F : Nat) (l0 : Option Nat) (l1 : Int32) (l3 : Int32) (l4 : Int64) (l6 : Int32) (l7 : Int32) (l8 : Int32) (l9 : Int32) (l10 : Int32) : xm Unit := mb (nn l0) fun v1 => mb (vc 9 v1) fun _ => mb (m136 F v1 l9 l10) fun v2 => if v2 = 0 then b162_59 k27 F (some v1) l1 l3 l4 l6 l7 l8 l9 l10 else b162_44 k27 F (some v1) l1 l3 l4 l6 l7 l8 l9 l10
theorem t162_33 {sc : Nat × (Nat → Int32)} {F : Nat} {r : Unit} {h' : xv_H} {k27 : Option Nat → Int32 → Int32 → Int64 → Int32 → Int32 → Int32 → Int32 → Int32 → xm Unit} (hk27 : ∀ (l0 : Option Nat) (l1 : Int32) (l3 : Int32) (l4 : Int64) (l6 : Int32) (l7 : Int32) (l8 : Int32) (l9 : Int32) (l10 : Int32) (d2 d5 : Option Value) (h : xv_H), k27 l0 l1 l3 l4 l6 l7 l8 l9 l10 h = some (r, h') → xx sc 162 27 [some (va_rf l0), some (.int l1), d2, some (.int l3), some (.long l4), d5, some (.int l6), some (.int l7), some (.int l8), some (.int l9), some (.int l10)] [] h (fun v g => v = none ∧ g = h')) {l0 : Option Nat} {l1 : Int32} {l3 : Int32} {l4 : Int64} {l6 : Int32} {l7 : Int32} {l8 : Int32} {l9 : Int32} {l10 : Int32} {d2 d5 : Option Value} {h : xv_H} (e : b162_33 k27 F l0 l1 l3 l4 l6 l7 l8 l9 l10 h = some (r, h')) : xx sc 162 33 [some (va_rf l0), some (.int l1), d2, some (.int l3), some (.long l4), d5, some (.int l6), some (.int l7), some (.int l8), some (.int l9), some (.int l10)] [] h (fun v g => v = none ∧ g = h') := by
  unfold b162_33 at e
  refine xo_aload_nQ (w := l0) rfl rfl ?_
  refine xo_iload rfl rfl ?_
  refine xo_iload rfl rfl ?_
  refine d_nn e (fun v1 g e1 => ?_)
  subst g
  replace e := e1
  clear e1
  refine d_virtual_i (av := [.int l9, .int l10]) (rest := []) rfl ⟨by decide, by decide⟩ rfl rfl (by simp [xv_fit, va_rf_cat, cat_int, cat_long, cat_ref, cat_null, show xt_mx 136 = 5 from rfl, show xt_lg 136 = [] from rfl]) (by simp [xv_room, va_rf_cat, cat_int, cat_long, cat_ref, cat_null]) (fun x0 h1 e1 => t136 e1) e (fun v2 h e => ?_)
  refine d_if_eq rfl rfl e (fun _ e => ?_) (fun _ e => ?_)
  · exact t162_59 hk27 e
  · exact t162_44 hk27 e
def b162_27 (F : Nat) : Nat → Option Nat → Int32 → Int32 → Int64 → Int32 → Int32 → Int32 → Int32 → Int32 → xm Unit
  | 0, _, _, _, _, _, _, _, _, _ => fun _ => none
  | f + 1, l0, l1, l3, l4, l6, l7, l8, l9, l10 => if (3 : Int32) ≤ l10 then b162_65 F l0 l1 l3 l4 l6 l7 l8 l9 else b162_33 (b162_27 F f) F l0 l1 l3 l4 l6 l7 l8 l9 l10
theorem t162_27 {sc : Nat × (Nat → Int32)} {F : Nat} {r : Unit} {h' : xv_H} : ∀ (f : Nat) (l0 : Option Nat) (l1 : Int32) (l3 : Int32) (l4 : Int64) (l6 : Int32) (l7 : Int32) (l8 : Int32) (l9 : Int32) (l10 : Int32) (d2 d5 : Option Value) (h : xv_H), b162_27 F f l0 l1 l3 l4 l6 l7 l8 l9 l10 h = some (r, h') → xx sc 162 27 [some (va_rf l0), some (.int l1), d2, some (.int l3), some (.long l4), d5, some (.int l6), some (.int l7), some (.int l8), some (.int l9), some (.int l10)] [] h (fun v g => v = none ∧ g = h') := by
  intro f
  induction f with
  | zero => intro l0 l1 l3 l4 l6 l7 l8 l9 l10 d2 d5 h e; cases e
  | succ f ih =>
    intro l0 l1 l3 l4 l6 l7 l8 l9 l10 d2 d5 h e
    unfold b162_27 at e
    refine xo_iload rfl rfl ?_
    refine xo_iconstV (x := 3) rfl (by decide) ?_
    refine d_icmp_ge rfl rfl e (fun _ e => ?_) (fun _ e => ?_)
    · exact t162_65 e
    · exact t162_33 (fun a0 a1 a2 a3 a4 a5 a6 a7 a8 a9 a10 h e => ih a0 a1 a2 a3 a4 a5 a6 a7 a8 a9 a10 h e) e
def b162_0 (F : Nat) (l0 : Option Nat) (l1 : Int32) (l2 : Int32) (l3 : Int32) (l4 : Int64) (l6 : Int32) (l7 : Int32) (l8 : Int32) : xm Unit := mb (nn l0) fun v1 => mb (gr 934 v1) fun v2 => mb (nn v2) fun v3 => mb (li v3 l1) fun v4 => mb (gr 935 v1) fun v5 => mb (gr 935 v1) fun v6 => mb (nn v6) fun v7 => mb (li v7 l1) fun v8 => mb (nn v5) fun v9 => mb (si v9 l1 (v8 ||| ((1 : Int32) <<< (l2 &&& 31)))) fun _ => b162_27 F F (some v1) l1 l3 l4 l6 l7 l8 v4 (0 : Int32)
theorem t162_0 {sc : Nat × (Nat → Int32)} {F : Nat} {r : Unit} {h' : xv_H} {l0 : Option Nat} {l1 : Int32} {l2 : Int32} {l3 : Int32} {l4 : Int64} {l6 : Int32} {l7 : Int32} {l8 : Int32} {d5 d9 d10 : Option Value} {h : xv_H} (e : b162_0 F l0 l1 l2 l3 l4 l6 l7 l8 h = some (r, h')) : xx sc 162 0 [some (va_rf l0), some (.int l1), some (.int l2), some (.int l3), some (.long l4), d5, some (.int l6), some (.int l7), some (.int l8), d9, d10] [] h (fun v g => v = none ∧ g = h') := by
  unfold b162_0 at e
  refine xo_aload_nQ (w := l0) rfl rfl ?_
  refine d_nn e (fun v1 g e1 => ?_)
  subst g
  replace e := e1
  clear e1
  refine d_getr rfl e (fun v2 e => ?_)
  refine xo_iload_n rfl rfl ?_
  refine d_nn e (fun v3 g e1 => ?_)
  subst g
  replace e := e1
  clear e1
  refine d_iald rfl e (fun v4 e => ?_)
  refine xo_istore rfl (Nat.le_of_ble_eq_true rfl) rfl ?_
  refine xo_aload_nQ (w := (some v1)) rfl rfl ?_
  refine d_getr rfl e (fun v5 e => ?_)
  refine xo_iload_n rfl rfl ?_
  refine xo_aload_nQ (w := (some v1)) rfl rfl ?_
  refine d_getr rfl e (fun v6 e => ?_)
  refine xo_iload_n rfl rfl ?_
  refine d_nn e (fun v7 g e1 => ?_)
  subst g
  replace e := e1
  clear e1
  refine d_iald rfl e (fun v8 e => ?_)
  refine xo_iconstV (x := 1) rfl (by decide) ?_
  refine xo_iload_n rfl rfl ?_
  refine xo_ishl rfl ?_
  refine xo_ior rfl ?_
  refine d_nn e (fun v9 g e1 => ?_)
  subst g
  replace e := e1
  clear e1
  refine d_iast rfl e (fun h e => ?_)
  refine xo_iconstV (x := 0) rfl (by decide) ?_
  refine xo_istore rfl (Nat.le_of_ble_eq_true rfl) rfl ?_
  exact t162_27 F _ _ _ _ _ _ _ _ _ _ _ _ e
def m162 (F : Nat) (this : Nat) (p0 : Int32) (p1 : Int32) (p2 : Int32) (p3 : Int64) (p4 : Int32) (p5 : Int32) (p6 : Int32) : xm Unit := b162_0 F (some this) p0 p1 p2 p3 p4 p5 p6
theorem t162 {sc : Nat × (Nat → Int32)} {F : Nat} {this : Nat} {p0 : Int32} {p1 : Int32} {p2 : Int32} {p3 : Int64} {p4 : Int32} {p5 : Int32} {p6 : Int32} {h : xv_H} {r : Unit} {h' : xv_H} (e : m162 F this p0 p1 p2 p3 p4 p5 p6 h = some (r, h')) : xr sc 162 [.ref this, .int p0, .int p1, .int p2, .long p3, .int p4, .int p5, .int p6] h (fun v g => v = none ∧ g = h') := by
  have e0 : xv_ent (xt_mx 162) [.ref this, .int p0, .int p1, .int p2, .long p3, .int p4, .int p5, .int p6] = [some (va_rf (some this)), some (.int p0), some (.int p1), some (.int p2), some (.long p3), none, some (.int p4), some (.int p5), some (.int p6), none, none] := by simp [xv_ent, xv_sl, va_rf_cat, cat_int, cat_long, cat_ref, cat_null, va_rf_some, show xt_mx 162 = 11 from rfl]
  unfold xr
  rw [e0]
  exact t162_0 e
-- CellTreeModel.deliver(I)Z
def b129_270 (F : Nat) : xm Int32 := mb (bz (1 : Int32)) fun _ => mr (1 : Int32)
theorem t129_270 {sc : Nat × (Nat → Int32)} {F : Nat} {r : Int32} {h' : xv_H} {d0 d1 d2 d3 d4 d5 d6 d7 d8 d9 d10 d11 : Option Value} {h : xv_H} (e : b129_270 F h = some (r, h')) : xx sc 129 270 [d0, d1, d2, d3, d4, d5, d6, d7, d8, d9, d10, d11] [] h (fun v g => v = some (.int r) ∧ g = h') := by
  unfold b129_270 at e
  refine xo_iconstV (x := 1) rfl (by decide) ?_
  exact d_zret rfl e
def b129_252 (F : Nat) (l0 : Option Nat) (l4 : Int32) (l5 : Int32) (l6 : Int64) (l8 : Int32) (l9 : Int32) (l10 : Int32) (l11 : Int32) : xm Int32 := mb (nn l0) fun v1 => mb (vc 9 v1) fun _ => mb (m162 F v1 l11 l4 l5 l6 l8 l9 l10) fun _ => b129_270 F
theorem t129_252 {sc : Nat × (Nat → Int32)} {F : Nat} {r : Int32} {h' : xv_H} {l0 : Option Nat} {l4 : Int32} {l5 : Int32} {l6 : Int64} {l8 : Int32} {l9 : Int32} {l10 : Int32} {l11 : Int32} {d1 d2 d3 d7 : Option Value} {h : xv_H} (e : b129_252 F l0 l4 l5 l6 l8 l9 l10 l11 h = some (r, h')) : xx sc 129 252 [some (va_rf l0), d1, d2, d3, some (.int l4), some (.int l5), some (.long l6), d7, some (.int l8), some (.int l9), some (.int l10), some (.int l11)] [] h (fun v g => v = some (.int r) ∧ g = h') := by
  unfold b129_252 at e
  refine xo_aload_nQ (w := l0) rfl rfl ?_
  refine xo_iload rfl rfl ?_
  refine xo_iload rfl rfl ?_
  refine xo_iload rfl rfl ?_
  refine xo_lload rfl rfl ?_
  refine xo_iload rfl rfl ?_
  refine xo_iload rfl rfl ?_
  refine xo_iload rfl rfl ?_
  refine d_nn e (fun v1 g e1 => ?_)
  subst g
  replace e := e1
  clear e1
  refine d_virtual_v (av := [.int l11, .int l4, .int l5, .long l6, .int l8, .int l9, .int l10]) (rest := []) rfl ⟨by decide, by decide⟩ rfl rfl (by simp [xv_fit, va_rf_cat, cat_int, cat_long, cat_ref, cat_null, show xt_mx 162 = 11 from rfl, show xt_lg 162 = [4] from rfl]) (by simp [xv_room, va_rf_cat, cat_int, cat_long, cat_ref, cat_null]) (fun x0 h1 e1 => t162 e1) e (fun _ h e => ?_)
  exact t129_270 e
def b129_241 (F : Nat) (l0 : Option Nat) (l4 : Int32) (l11 : Int32) : xm Int32 := mb (nn l0) fun v1 => mb (vc 9 v1) fun _ => mb (m138 F v1 l11 l4) fun _ => b129_270 F
theorem t129_241 {sc : Nat × (Nat → Int32)} {F : Nat} {r : Int32} {h' : xv_H} {l0 : Option Nat} {l4 : Int32} {l11 : Int32} {d1 d2 d3 d5 d6 d7 d8 d9 d10 : Option Value} {h : xv_H} (e : b129_241 F l0 l4 l11 h = some (r, h')) : xx sc 129 241 [some (va_rf l0), d1, d2, d3, some (.int l4), d5, d6, d7, d8, d9, d10, some (.int l11)] [] h (fun v g => v = some (.int r) ∧ g = h') := by
  unfold b129_241 at e
  refine xo_aload_nQ (w := l0) rfl rfl ?_
  refine xo_iload rfl rfl ?_
  refine xo_iload rfl rfl ?_
  refine d_nn e (fun v1 g e1 => ?_)
  subst g
  replace e := e1
  clear e1
  refine d_virtual_v (av := [.int l11, .int l4]) (rest := []) rfl ⟨by decide, by decide⟩ rfl rfl (by simp [xv_fit, va_rf_cat, cat_int, cat_long, cat_ref, cat_null, show xt_mx 138 = 5 from rfl, show xt_lg 138 = [] from rfl]) (by simp [xv_room, va_rf_cat, cat_int, cat_long, cat_ref, cat_null]) (fun x0 h1 e1 => t138 e1) e (fun _ h e => ?_)
  refine xo_goto rfl rfl ?_
  exact t129_270 e
def b129_236 (F : Nat) (l0 : Option Nat) (l2 : Int32) (l4 : Int32) (l5 : Int32) (l6 : Int64) (l8 : Int32) (l9 : Int32) (l10 : Int32) (l11 : Int32) : xm Int32 := if ¬ l2 = (3 : Int32) then b129_252 F l0 l4 l5 l6 l8 l9 l10 l11 else b129_241 F l0 l4 l11
theorem t129_236 {sc : Nat × (Nat → Int32)} {F : Nat} {r : Int32} {h' : xv_H} {l0 : Option Nat} {l2 : Int32} {l4 : Int32} {l5 : Int32} {l6 : Int64} {l8 : Int32} {l9 : Int32} {l10 : Int32} {l11 : Int32} {d1 d3 d7 : Option Value} {h : xv_H} (e : b129_236 F l0 l2 l4 l5 l6 l8 l9 l10 l11 h = some (r, h')) : xx sc 129 236 [some (va_rf l0), d1, some (.int l2), d3, some (.int l4), some (.int l5), some (.long l6), d7, some (.int l8), some (.int l9), some (.int l10), some (.int l11)] [] h (fun v g => v = some (.int r) ∧ g = h') := by
  unfold b129_236 at e
  refine xo_iload_n rfl rfl ?_
  refine xo_iconstV (x := 3) rfl (by decide) ?_
  refine d_icmp_ne rfl rfl e (fun _ e => ?_) (fun _ e => ?_)
  · exact t129_252 e
  · exact t129_241 e
def b129_225 (F : Nat) (l0 : Option Nat) (l2 : Int32) (l3 : Int32) (l4 : Int32) (l5 : Int32) (l6 : Int64) (l8 : Int32) (l9 : Int32) (l10 : Int32) (l11 : Int32) : xm Int32 := mb (nn l0) fun v1 => mb (gr 934 v1) fun v2 => mb (nn v2) fun v3 => mb (li v3 l11) fun v4 => if ¬ v4 = l3 then b129_270 F else b129_236 F (some v1) l2 l4 l5 l6 l8 l9 l10 l11
theorem t129_225 {sc : Nat × (Nat → Int32)} {F : Nat} {r : Int32} {h' : xv_H} {l0 : Option Nat} {l2 : Int32} {l3 : Int32} {l4 : Int32} {l5 : Int32} {l6 : Int64} {l8 : Int32} {l9 : Int32} {l10 : Int32} {l11 : Int32} {d1 d7 : Option Value} {h : xv_H} (e : b129_225 F l0 l2 l3 l4 l5 l6 l8 l9 l10 l11 h = some (r, h')) : xx sc 129 225 [some (va_rf l0), d1, some (.int l2), some (.int l3), some (.int l4), some (.int l5), some (.long l6), d7, some (.int l8), some (.int l9), some (.int l10), some (.int l11)] [] h (fun v g => v = some (.int r) ∧ g = h') := by
  unfold b129_225 at e
  refine xo_aload_nQ (w := l0) rfl rfl ?_
  refine d_nn e (fun v1 g e1 => ?_)
  subst g
  replace e := e1
  clear e1
  refine d_getr rfl e (fun v2 e => ?_)
  refine xo_iload rfl rfl ?_
  refine d_nn e (fun v3 g e1 => ?_)
  subst g
  replace e := e1
  clear e1
  refine d_iald rfl e (fun v4 e => ?_)
  refine xo_iload_n rfl rfl ?_
  refine d_icmp_ne rfl rfl e (fun _ e => ?_) (fun _ e => ?_)
  · exact t129_270 e
  · exact t129_236 e
def b129_213 (F : Nat) (l0 : Option Nat) (l2 : Int32) (l3 : Int32) (l4 : Int32) (l5 : Int32) (l6 : Int64) (l8 : Int32) (l9 : Int32) (l10 : Int32) (l11 : Int32) : xm Int32 := mb (nn l0) fun v1 => mb (gr 900 v1) fun v2 => mb (nn v2) fun v3 => mb (lb v3 ((3 : Int32) + l11)) fun v4 => if ¬ v4 = 0 then b129_270 F else b129_225 F (some v1) l2 l3 l4 l5 l6 l8 l9 l10 l11
theorem t129_213 {sc : Nat × (Nat → Int32)} {F : Nat} {r : Int32} {h' : xv_H} {l0 : Option Nat} {l2 : Int32} {l3 : Int32} {l4 : Int32} {l5 : Int32} {l6 : Int64} {l8 : Int32} {l9 : Int32} {l10 : Int32} {l11 : Int32} {d1 d7 : Option Value} {h : xv_H} (e : b129_213 F l0 l2 l3 l4 l5 l6 l8 l9 l10 l11 h = some (r, h')) : xx sc 129 213 [some (va_rf l0), d1, some (.int l2), some (.int l3), some (.int l4), some (.int l5), some (.long l6), d7, some (.int l8), some (.int l9), some (.int l10), some (.int l11)] [] h (fun v g => v = some (.int r) ∧ g = h') := by
  unfold b129_213 at e
  refine xo_aload_nQ (w := l0) rfl rfl ?_
  refine d_nn e (fun v1 g e1 => ?_)
  subst g
  replace e := e1
  clear e1
  refine d_getr rfl e (fun v2 e => ?_)
  refine xo_iconstV (x := 3) rfl (by decide) ?_
  refine xo_iload rfl rfl ?_
  refine xo_iadd rfl ?_
  refine d_nn e (fun v3 g e1 => ?_)
  subst g
  replace e := e1
  clear e1
  refine d_bald rfl e (fun v4 e => ?_)
  refine d_if_ne rfl rfl e (fun _ e => ?_) (fun _ e => ?_)
  · exact t129_270 e
  · exact t129_225 e
def b129_208 (F : Nat) (l0 : Option Nat) (l2 : Int32) (l3 : Int32) (l4 : Int32) (l5 : Int32) (l6 : Int64) (l8 : Int32) (l9 : Int32) (l10 : Int32) (l11 : Int32) : xm Int32 := if ¬ l2 = (3 : Int32) then b129_270 F else b129_213 F l0 l2 l3 l4 l5 l6 l8 l9 l10 l11
theorem t129_208 {sc : Nat × (Nat → Int32)} {F : Nat} {r : Int32} {h' : xv_H} {l0 : Option Nat} {l2 : Int32} {l3 : Int32} {l4 : Int32} {l5 : Int32} {l6 : Int64} {l8 : Int32} {l9 : Int32} {l10 : Int32} {l11 : Int32} {d1 d7 : Option Value} {h : xv_H} (e : b129_208 F l0 l2 l3 l4 l5 l6 l8 l9 l10 l11 h = some (r, h')) : xx sc 129 208 [some (va_rf l0), d1, some (.int l2), some (.int l3), some (.int l4), some (.int l5), some (.long l6), d7, some (.int l8), some (.int l9), some (.int l10), some (.int l11)] [] h (fun v g => v = some (.int r) ∧ g = h') := by
  unfold b129_208 at e
  refine xo_iload_n rfl rfl ?_
  refine xo_iconstV (x := 3) rfl (by decide) ?_
  refine d_icmp_ne rfl rfl e (fun _ e => ?_) (fun _ e => ?_)
  · exact t129_270 e
  · exact t129_213 e
def b129_203 (F : Nat) (l0 : Option Nat) (l2 : Int32) (l3 : Int32) (l4 : Int32) (l5 : Int32) (l6 : Int64) (l8 : Int32) (l9 : Int32) (l10 : Int32) (l11 : Int32) : xm Int32 := if l2 = (2 : Int32) then b129_213 F l0 l2 l3 l4 l5 l6 l8 l9 l10 l11 else b129_208 F l0 l2 l3 l4 l5 l6 l8 l9 l10 l11
theorem t129_203 {sc : Nat × (Nat → Int32)} {F : Nat} {r : Int32} {h' : xv_H} {l0 : Option Nat} {l2 : Int32} {l3 : Int32} {l4 : Int32} {l5 : Int32} {l6 : Int64} {l8 : Int32} {l9 : Int32} {l10 : Int32} {l11 : Int32} {d1 d7 : Option Value} {h : xv_H} (e : b129_203 F l0 l2 l3 l4 l5 l6 l8 l9 l10 l11 h = some (r, h')) : xx sc 129 203 [some (va_rf l0), d1, some (.int l2), some (.int l3), some (.int l4), some (.int l5), some (.long l6), d7, some (.int l8), some (.int l9), some (.int l10), some (.int l11)] [] h (fun v g => v = some (.int r) ∧ g = h') := by
  unfold b129_203 at e
  refine xo_iload_n rfl rfl ?_
  refine xo_iconstV (x := 2) rfl (by decide) ?_
  refine d_icmp_eq rfl rfl e (fun _ e => ?_) (fun _ e => ?_)
  · exact t129_213 e
  · exact t129_208 e
def b129_191 (F : Nat) (l0 : Option Nat) (l2 : Int32) (l3 : Int32) (l4 : Int32) (l5 : Int32) (l6 : Int64) (l8 : Int32) (l9 : Int32) (l10 : Int32) (l11 : Int32) : xm Int32 := mb (nn l0) fun v1 => mb (gr 908 v1) fun v2 => mb (nn v2) fun v3 => mb (sb v3 (((3 : Int32) * l3) + l4) (3 : Int32)) fun _ => b129_203 F (some v1) l2 l3 l4 l5 l6 l8 l9 l10 l11
theorem t129_191 {sc : Nat × (Nat → Int32)} {F : Nat} {r : Int32} {h' : xv_H} {l0 : Option Nat} {l2 : Int32} {l3 : Int32} {l4 : Int32} {l5 : Int32} {l6 : Int64} {l8 : Int32} {l9 : Int32} {l10 : Int32} {l11 : Int32} {d1 d7 : Option Value} {h : xv_H} (e : b129_191 F l0 l2 l3 l4 l5 l6 l8 l9 l10 l11 h = some (r, h')) : xx sc 129 191 [some (va_rf l0), d1, some (.int l2), some (.int l3), some (.int l4), some (.int l5), some (.long l6), d7, some (.int l8), some (.int l9), some (.int l10), some (.int l11)] [] h (fun v g => v = some (.int r) ∧ g = h') := by
  unfold b129_191 at e
  refine xo_aload_nQ (w := l0) rfl rfl ?_
  refine d_nn e (fun v1 g e1 => ?_)
  subst g
  replace e := e1
  clear e1
  refine d_getr rfl e (fun v2 e => ?_)
  refine xo_iconstV (x := 3) rfl (by decide) ?_
  refine xo_iload_n rfl rfl ?_
  refine xo_imul rfl ?_
  refine xo_iload rfl rfl ?_
  refine xo_iadd rfl ?_
  refine xo_iconstV (x := 3) rfl (by decide) ?_
  refine d_nn e (fun v3 g e1 => ?_)
  subst g
  replace e := e1
  clear e1
  refine d_bast rfl e (fun h e => ?_)
  exact t129_203 e
def b129_176 (F : Nat) (l0 : Option Nat) (l2 : Int32) (l3 : Int32) (l4 : Int32) (l5 : Int32) (l6 : Int64) (l8 : Int32) (l9 : Int32) (l10 : Int32) (l11 : Int32) : xm Int32 := mb (nn l0) fun v1 => mb (gr 908 v1) fun v2 => mb (nn v2) fun v3 => mb (lb v3 (((3 : Int32) * l3) + l4)) fun v4 => if (2 : Int32) ≤ v4 then b129_203 F (some v1) l2 l3 l4 l5 l6 l8 l9 l10 l11 else b129_191 F (some v1) l2 l3 l4 l5 l6 l8 l9 l10 l11
theorem t129_176 {sc : Nat × (Nat → Int32)} {F : Nat} {r : Int32} {h' : xv_H} {l0 : Option Nat} {l2 : Int32} {l3 : Int32} {l4 : Int32} {l5 : Int32} {l6 : Int64} {l8 : Int32} {l9 : Int32} {l10 : Int32} {l11 : Int32} {d1 d7 : Option Value} {h : xv_H} (e : b129_176 F l0 l2 l3 l4 l5 l6 l8 l9 l10 l11 h = some (r, h')) : xx sc 129 176 [some (va_rf l0), d1, some (.int l2), some (.int l3), some (.int l4), some (.int l5), some (.long l6), d7, some (.int l8), some (.int l9), some (.int l10), some (.int l11)] [] h (fun v g => v = some (.int r) ∧ g = h') := by
  unfold b129_176 at e
  refine xo_aload_nQ (w := l0) rfl rfl ?_
  refine d_nn e (fun v1 g e1 => ?_)
  subst g
  replace e := e1
  clear e1
  refine d_getr rfl e (fun v2 e => ?_)
  refine xo_iconstV (x := 3) rfl (by decide) ?_
  refine xo_iload_n rfl rfl ?_
  refine xo_imul rfl ?_
  refine xo_iload rfl rfl ?_
  refine xo_iadd rfl ?_
  refine d_nn e (fun v3 g e1 => ?_)
  subst g
  replace e := e1
  clear e1
  refine d_bald rfl e (fun v4 e => ?_)
  refine xo_iconstV (x := 2) rfl (by decide) ?_
  refine d_icmp_ge rfl rfl e (fun _ e => ?_) (fun _ e => ?_)
  · exact t129_203 e
  · exact t129_191 e
def b129_166 (F : Nat) (l0 : Option Nat) (l2 : Int32) (l3 : Int32) (l4 : Int32) (l5 : Int32) (l6 : Int64) (l8 : Int32) (l9 : Int32) (l10 : Int32) (l11 : Int32) : xm Int32 := mb (nn l0) fun v1 => mb (gr 900 v1) fun v2 => mb (nn v2) fun v3 => mb (lb v3 l4) fun v4 => if ¬ v4 = 0 then b129_203 F (some v1) l2 l3 l4 l5 l6 l8 l9 l10 l11 else b129_176 F (some v1) l2 l3 l4 l5 l6 l8 l9 l10 l11
theorem t129_166 {sc : Nat × (Nat → Int32)} {F : Nat} {r : Int32} {h' : xv_H} {l0 : Option Nat} {l2 : Int32} {l3 : Int32} {l4 : Int32} {l5 : Int32} {l6 : Int64} {l8 : Int32} {l9 : Int32} {l10 : Int32} {l11 : Int32} {d1 d7 : Option Value} {h : xv_H} (e : b129_166 F l0 l2 l3 l4 l5 l6 l8 l9 l10 l11 h = some (r, h')) : xx sc 129 166 [some (va_rf l0), d1, some (.int l2), some (.int l3), some (.int l4), some (.int l5), some (.long l6), d7, some (.int l8), some (.int l9), some (.int l10), some (.int l11)] [] h (fun v g => v = some (.int r) ∧ g = h') := by
  unfold b129_166 at e
  refine xo_aload_nQ (w := l0) rfl rfl ?_
  refine d_nn e (fun v1 g e1 => ?_)
  subst g
  replace e := e1
  clear e1
  refine d_getr rfl e (fun v2 e => ?_)
  refine xo_iload rfl rfl ?_
  refine d_nn e (fun v3 g e1 => ?_)
  subst g
  replace e := e1
  clear e1
  refine d_bald rfl e (fun v4 e => ?_)
  refine d_if_ne rfl rfl e (fun _ e => ?_) (fun _ e => ?_)
  · exact t129_203 e
  · exact t129_176 e
def b129_161 (F : Nat) (l0 : Option Nat) (l2 : Int32) (l3 : Int32) (l4 : Int32) (l5 : Int32) (l6 : Int64) (l8 : Int32) (l9 : Int32) (l10 : Int32) (l11 : Int32) : xm Int32 := if ¬ l2 = (5 : Int32) then b129_203 F l0 l2 l3 l4 l5 l6 l8 l9 l10 l11 else b129_166 F l0 l2 l3 l4 l5 l6 l8 l9 l10 l11
theorem t129_161 {sc : Nat × (Nat → Int32)} {F : Nat} {r : Int32} {h' : xv_H} {l0 : Option Nat} {l2 : Int32} {l3 : Int32} {l4 : Int32} {l5 : Int32} {l6 : Int64} {l8 : Int32} {l9 : Int32} {l10 : Int32} {l11 : Int32} {d1 d7 : Option Value} {h : xv_H} (e : b129_161 F l0 l2 l3 l4 l5 l6 l8 l9 l10 l11 h = some (r, h')) : xx sc 129 161 [some (va_rf l0), d1, some (.int l2), some (.int l3), some (.int l4), some (.int l5), some (.long l6), d7, some (.int l8), some (.int l9), some (.int l10), some (.int l11)] [] h (fun v g => v = some (.int r) ∧ g = h') := by
  unfold b129_161 at e
  refine xo_iload_n rfl rfl ?_
  refine xo_iconstV (x := 5) rfl (by decide) ?_
  refine d_icmp_ne rfl rfl e (fun _ e => ?_) (fun _ e => ?_)
  · exact t129_203 e
  · exact t129_166 e
def b129_154 (F : Nat) (l0 : Option Nat) (l2 : Int32) (l3 : Int32) (l4 : Int32) (l5 : Int32) (l6 : Int64) (l8 : Int32) (l9 : Int32) (l10 : Int32) (l11 : Int32) : xm Int32 := mb (nn l0) fun v1 => mb (vc 9 v1) fun _ => mb (m137 F v1 l3 l4) fun _ => b129_161 F (some v1) l2 l3 l4 l5 l6 l8 l9 l10 l11
theorem t129_154 {sc : Nat × (Nat → Int32)} {F : Nat} {r : Int32} {h' : xv_H} {l0 : Option Nat} {l2 : Int32} {l3 : Int32} {l4 : Int32} {l5 : Int32} {l6 : Int64} {l8 : Int32} {l9 : Int32} {l10 : Int32} {l11 : Int32} {d1 d7 : Option Value} {h : xv_H} (e : b129_154 F l0 l2 l3 l4 l5 l6 l8 l9 l10 l11 h = some (r, h')) : xx sc 129 154 [some (va_rf l0), d1, some (.int l2), some (.int l3), some (.int l4), some (.int l5), some (.long l6), d7, some (.int l8), some (.int l9), some (.int l10), some (.int l11)] [] h (fun v g => v = some (.int r) ∧ g = h') := by
  unfold b129_154 at e
  refine xo_aload_nQ (w := l0) rfl rfl ?_
  refine xo_iload_n rfl rfl ?_
  refine xo_iload rfl rfl ?_
  refine d_nn e (fun v1 g e1 => ?_)
  subst g
  replace e := e1
  clear e1
  refine d_virtual_v (av := [.int l3, .int l4]) (rest := []) rfl ⟨by decide, by decide⟩ rfl rfl (by simp [xv_fit, va_rf_cat, cat_int, cat_long, cat_ref, cat_null, show xt_mx 137 = 6 from rfl, show xt_lg 137 = [] from rfl]) (by simp [xv_room, va_rf_cat, cat_int, cat_long, cat_ref, cat_null]) (fun x0 h1 e1 => t137 e1) e (fun _ h e => ?_)
  exact t129_161 e
def b129_139 (F : Nat) (l0 : Option Nat) (l2 : Int32) (l3 : Int32) (l4 : Int32) (l5 : Int32) (l6 : Int64) (l8 : Int32) (l9 : Int32) (l10 : Int32) (l11 : Int32) : xm Int32 := mb (nn l0) fun v1 => mb (gr 908 v1) fun v2 => mb (nn v2) fun v3 => mb (lb v3 (((3 : Int32) * l3) + l4)) fun v4 => if ¬ v4 = (1 : Int32) then b129_161 F (some v1) l2 l3 l4 l5 l6 l8 l9 l10 l11 else b129_154 F (some v1) l2 l3 l4 l5 l6 l8 l9 l10 l11
theorem t129_139 {sc : Nat × (Nat → Int32)} {F : Nat} {r : Int32} {h' : xv_H} {l0 : Option Nat} {l2 : Int32} {l3 : Int32} {l4 : Int32} {l5 : Int32} {l6 : Int64} {l8 : Int32} {l9 : Int32} {l10 : Int32} {l11 : Int32} {d1 d7 : Option Value} {h : xv_H} (e : b129_139 F l0 l2 l3 l4 l5 l6 l8 l9 l10 l11 h = some (r, h')) : xx sc 129 139 [some (va_rf l0), d1, some (.int l2), some (.int l3), some (.int l4), some (.int l5), some (.long l6), d7, some (.int l8), some (.int l9), some (.int l10), some (.int l11)] [] h (fun v g => v = some (.int r) ∧ g = h') := by
  unfold b129_139 at e
  refine xo_aload_nQ (w := l0) rfl rfl ?_
  refine d_nn e (fun v1 g e1 => ?_)
  subst g
  replace e := e1
  clear e1
  refine d_getr rfl e (fun v2 e => ?_)
  refine xo_iconstV (x := 3) rfl (by decide) ?_
  refine xo_iload_n rfl rfl ?_
  refine xo_imul rfl ?_
  refine xo_iload rfl rfl ?_
  refine xo_iadd rfl ?_
  refine d_nn e (fun v3 g e1 => ?_)
  subst g
  replace e := e1
  clear e1
  refine d_bald rfl e (fun v4 e => ?_)
  refine xo_iconstV (x := 1) rfl (by decide) ?_
  refine d_icmp_ne rfl rfl e (fun _ e => ?_) (fun _ e => ?_)
  · exact t129_161 e
  · exact t129_154 e
def b129_129 (F : Nat) (l0 : Option Nat) (l2 : Int32) (l3 : Int32) (l4 : Int32) (l5 : Int32) (l6 : Int64) (l8 : Int32) (l9 : Int32) (l10 : Int32) (l11 : Int32) : xm Int32 := mb (nn l0) fun v1 => mb (gr 900 v1) fun v2 => mb (nn v2) fun v3 => mb (lb v3 l4) fun v4 => if ¬ v4 = 0 then b129_161 F (some v1) l2 l3 l4 l5 l6 l8 l9 l10 l11 else b129_139 F (some v1) l2 l3 l4 l5 l6 l8 l9 l10 l11
theorem t129_129 {sc : Nat × (Nat → Int32)} {F : Nat} {r : Int32} {h' : xv_H} {l0 : Option Nat} {l2 : Int32} {l3 : Int32} {l4 : Int32} {l5 : Int32} {l6 : Int64} {l8 : Int32} {l9 : Int32} {l10 : Int32} {l11 : Int32} {d1 d7 : Option Value} {h : xv_H} (e : b129_129 F l0 l2 l3 l4 l5 l6 l8 l9 l10 l11 h = some (r, h')) : xx sc 129 129 [some (va_rf l0), d1, some (.int l2), some (.int l3), some (.int l4), some (.int l5), some (.long l6), d7, some (.int l8), some (.int l9), some (.int l10), some (.int l11)] [] h (fun v g => v = some (.int r) ∧ g = h') := by
  unfold b129_129 at e
  refine xo_aload_nQ (w := l0) rfl rfl ?_
  refine d_nn e (fun v1 g e1 => ?_)
  subst g
  replace e := e1
  clear e1
  refine d_getr rfl e (fun v2 e => ?_)
  refine xo_iload rfl rfl ?_
  refine d_nn e (fun v3 g e1 => ?_)
  subst g
  replace e := e1
  clear e1
  refine d_bald rfl e (fun v4 e => ?_)
  refine d_if_ne rfl rfl e (fun _ e => ?_) (fun _ e => ?_)
  · exact t129_161 e
  · exact t129_139 e
def b129_124 (F : Nat) (l0 : Option Nat) (l2 : Int32) (l3 : Int32) (l4 : Int32) (l5 : Int32) (l6 : Int64) (l8 : Int32) (l9 : Int32) (l10 : Int32) (l11 : Int32) : xm Int32 := if ¬ l2 = (4 : Int32) then b129_161 F l0 l2 l3 l4 l5 l6 l8 l9 l10 l11 else b129_129 F l0 l2 l3 l4 l5 l6 l8 l9 l10 l11
theorem t129_124 {sc : Nat × (Nat → Int32)} {F : Nat} {r : Int32} {h' : xv_H} {l0 : Option Nat} {l2 : Int32} {l3 : Int32} {l4 : Int32} {l5 : Int32} {l6 : Int64} {l8 : Int32} {l9 : Int32} {l10 : Int32} {l11 : Int32} {d1 d7 : Option Value} {h : xv_H} (e : b129_124 F l0 l2 l3 l4 l5 l6 l8 l9 l10 l11 h = some (r, h')) : xx sc 129 124 [some (va_rf l0), d1, some (.int l2), some (.int l3), some (.int l4), some (.int l5), some (.long l6), d7, some (.int l8), some (.int l9), some (.int l10), some (.int l11)] [] h (fun v g => v = some (.int r) ∧ g = h') := by
  unfold b129_124 at e
  refine xo_iload_n rfl rfl ?_
  refine xo_iconstV (x := 4) rfl (by decide) ?_
  refine d_icmp_ne rfl rfl e (fun _ e => ?_) (fun _ e => ?_)
  · exact t129_161 e
  · exact t129_129 e
def b129_117 (F : Nat) (l0 : Option Nat) (l2 : Int32) (l3 : Int32) (l4 : Int32) (l5 : Int32) (l6 : Int64) (l8 : Int32) (l9 : Int32) (l10 : Int32) (l11 : Int32) : xm Int32 := mb (nn l0) fun v1 => mb (vc 9 v1) fun _ => mb (m130 F v1 l3 l4) fun _ => b129_124 F (some v1) l2 l3 l4 l5 l6 l8 l9 l10 l11
theorem t129_117 {sc : Nat × (Nat → Int32)} {F : Nat} {r : Int32} {h' : xv_H} {l0 : Option Nat} {l2 : Int32} {l3 : Int32} {l4 : Int32} {l5 : Int32} {l6 : Int64} {l8 : Int32} {l9 : Int32} {l10 : Int32} {l11 : Int32} {d1 d7 : Option Value} {h : xv_H} (e : b129_117 F l0 l2 l3 l4 l5 l6 l8 l9 l10 l11 h = some (r, h')) : xx sc 129 117 [some (va_rf l0), d1, some (.int l2), some (.int l3), some (.int l4), some (.int l5), some (.long l6), d7, some (.int l8), some (.int l9), some (.int l10), some (.int l11)] [] h (fun v g => v = some (.int r) ∧ g = h') := by
  unfold b129_117 at e
  refine xo_aload_nQ (w := l0) rfl rfl ?_
  refine xo_iload_n rfl rfl ?_
  refine xo_iload rfl rfl ?_
  refine d_nn e (fun v1 g e1 => ?_)
  subst g
  replace e := e1
  clear e1
  refine d_virtual_v (av := [.int l3, .int l4]) (rest := []) rfl ⟨by decide, by decide⟩ rfl rfl (by simp [xv_fit, va_rf_cat, cat_int, cat_long, cat_ref, cat_null, show xt_mx 130 = 8 from rfl, show xt_lg 130 = [] from rfl]) (by simp [xv_room, va_rf_cat, cat_int, cat_long, cat_ref, cat_null]) (fun x0 h1 e1 => t130 e1) e (fun _ h e => ?_)
  exact t129_124 e
def b129_107 (F : Nat) (l0 : Option Nat) (l2 : Int32) (l3 : Int32) (l4 : Int32) (l5 : Int32) (l6 : Int64) (l8 : Int32) (l9 : Int32) (l10 : Int32) (l11 : Int32) : xm Int32 := mb (nn l0) fun v1 => mb (gr 900 v1) fun v2 => mb (nn v2) fun v3 => mb (lb v3 l4) fun v4 => if ¬ v4 = 0 then b129_124 F (some v1) l2 l3 l4 l5 l6 l8 l9 l10 l11 else b129_117 F (some v1) l2 l3 l4 l5 l6 l8 l9 l10 l11
theorem t129_107 {sc : Nat × (Nat → Int32)} {F : Nat} {r : Int32} {h' : xv_H} {l0 : Option Nat} {l2 : Int32} {l3 : Int32} {l4 : Int32} {l5 : Int32} {l6 : Int64} {l8 : Int32} {l9 : Int32} {l10 : Int32} {l11 : Int32} {d1 d7 : Option Value} {h : xv_H} (e : b129_107 F l0 l2 l3 l4 l5 l6 l8 l9 l10 l11 h = some (r, h')) : xx sc 129 107 [some (va_rf l0), d1, some (.int l2), some (.int l3), some (.int l4), some (.int l5), some (.long l6), d7, some (.int l8), some (.int l9), some (.int l10), some (.int l11)] [] h (fun v g => v = some (.int r) ∧ g = h') := by
  unfold b129_107 at e
  refine xo_aload_nQ (w := l0) rfl rfl ?_
  refine d_nn e (fun v1 g e1 => ?_)
  subst g
  replace e := e1
  clear e1
  refine d_getr rfl e (fun v2 e => ?_)
  refine xo_iload rfl rfl ?_
  refine d_nn e (fun v3 g e1 => ?_)
  subst g
  replace e := e1
  clear e1
  refine d_bald rfl e (fun v4 e => ?_)
  refine d_if_ne rfl rfl e (fun _ e => ?_) (fun _ e => ?_)
  · exact t129_124 e
  · exact t129_117 e
def b129_16 (F : Nat) (l0 : Option Nat) (l1 : Int32) : xm Int32 := mb (nn l0) fun v1 => mb (gr 916 v1) fun v2 => mb (nn v2) fun v3 => mb (li v3 l1) fun v4 => mb (gr 917 v1) fun v5 => mb (nn v5) fun v6 => mb (li v6 l1) fun v7 => mb (gr 918 v1) fun v8 => mb (nn v8) fun v9 => mb (li v9 l1) fun v10 => mb (gr 919 v1) fun v11 => mb (nn v11) fun v12 => mb (li v12 l1) fun v13 => mb (gr 920 v1) fun v14 => mb (nn v14) fun v15 => mb (ll v15 l1) fun v16 => mb (gr 921 v1) fun v17 => mb (nn v17) fun v18 => mb (li v18 ((3 : Int32) * l1)) fun v19 => mb (gr 921 v1) fun v20 => mb (nn v20) fun v21 => mb (li v21 (((3 : Int32) * l1) + (1 : Int32))) fun v22 => mb (gr 921 v1) fun v23 => mb (nn v23) fun v24 => mb (li v24 (((3 : Int32) * l1) + (2 : Int32))) fun v25 => mb (vc 9 v1) fun _ => mb (m128 F v1 l1) fun v26 => mb (gr 905 v1) fun v27 => mb (nn v27) fun v28 => mb (li v28 v7) fun v29 => if ¬ v4 = (1 : Int32) then b129_124 F (some v1) v4 v7 v10 v13 v16 v19 v22 v25 v29 else b129_107 F (some v1) v4 v7 v10 v13 v16 v19 v22 v25 v29
theorem t129_16 {sc : Nat × (Nat → Int32)} {F : Nat} {r : Int32} {h' : xv_H} {l0 : Option Nat} {l1 : Int32} {d2 d3 d4 d5 d6 d7 d8 d9 d10 d11 : Option Value} {h : xv_H} (e : b129_16 F l0 l1 h = some (r, h')) : xx sc 129 16 [some (va_rf l0), some (.int l1), d2, d3, d4, d5, d6, d7, d8, d9, d10, d11] [] h (fun v g => v = some (.int r) ∧ g = h') := by
  unfold b129_16 at e
  refine xo_aload_nQ (w := l0) rfl rfl ?_
  refine d_nn e (fun v1 g e1 => ?_)
  subst g
  replace e := e1
  clear e1
  refine d_getr rfl e (fun v2 e => ?_)
  refine xo_iload_n rfl rfl ?_
  refine d_nn e (fun v3 g e1 => ?_)
  subst g
  replace e := e1
  clear e1
  refine d_iald rfl e (fun v4 e => ?_)
  refine xo_istore_n rfl (Nat.le_of_ble_eq_true rfl) rfl ?_
  refine xo_aload_nQ (w := (some v1)) rfl rfl ?_
  refine d_getr rfl e (fun v5 e => ?_)
  refine xo_iload_n rfl rfl ?_
  refine d_nn e (fun v6 g e1 => ?_)
  subst g
  replace e := e1
  clear e1
  refine d_iald rfl e (fun v7 e => ?_)
  refine xo_istore_n rfl (Nat.le_of_ble_eq_true rfl) rfl ?_
  refine xo_aload_nQ (w := (some v1)) rfl rfl ?_
  refine d_getr rfl e (fun v8 e => ?_)
  refine xo_iload_n rfl rfl ?_
  refine d_nn e (fun v9 g e1 => ?_)
  subst g
  replace e := e1
  clear e1
  refine d_iald rfl e (fun v10 e => ?_)
  refine xo_istore rfl (Nat.le_of_ble_eq_true rfl) rfl ?_
  refine xo_aload_nQ (w := (some v1)) rfl rfl ?_
  refine d_getr rfl e (fun v11 e => ?_)
  refine xo_iload_n rfl rfl ?_
  refine d_nn e (fun v12 g e1 => ?_)
  subst g
  replace e := e1
  clear e1
  refine d_iald rfl e (fun v13 e => ?_)
  refine xo_istore rfl (Nat.le_of_ble_eq_true rfl) rfl ?_
  refine xo_aload_nQ (w := (some v1)) rfl rfl ?_
  refine d_getr rfl e (fun v14 e => ?_)
  refine xo_iload_n rfl rfl ?_
  refine d_nn e (fun v15 g e1 => ?_)
  subst g
  replace e := e1
  clear e1
  refine d_lald rfl e (fun v16 e => ?_)
  refine xo_lstore rfl (Nat.le_of_ble_eq_true rfl) rfl rfl ?_
  refine xo_aload_nQ (w := (some v1)) rfl rfl ?_
  refine d_getr rfl e (fun v17 e => ?_)
  refine xo_iconstV (x := 3) rfl (by decide) ?_
  refine xo_iload_n rfl rfl ?_
  refine xo_imul rfl ?_
  refine d_nn e (fun v18 g e1 => ?_)
  subst g
  replace e := e1
  clear e1
  refine d_iald rfl e (fun v19 e => ?_)
  refine xo_istore rfl (Nat.le_of_ble_eq_true rfl) rfl ?_
  refine xo_aload_nQ (w := (some v1)) rfl rfl ?_
  refine d_getr rfl e (fun v20 e => ?_)
  refine xo_iconstV (x := 3) rfl (by decide) ?_
  refine xo_iload_n rfl rfl ?_
  refine xo_imul rfl ?_
  refine xo_iconstV (x := 1) rfl (by decide) ?_
  refine xo_iadd rfl ?_
  refine d_nn e (fun v21 g e1 => ?_)
  subst g
  replace e := e1
  clear e1
  refine d_iald rfl e (fun v22 e => ?_)
  refine xo_istore rfl (Nat.le_of_ble_eq_true rfl) rfl ?_
  refine xo_aload_nQ (w := (some v1)) rfl rfl ?_
  refine d_getr rfl e (fun v23 e => ?_)
  refine xo_iconstV (x := 3) rfl (by decide) ?_
  refine xo_iload_n rfl rfl ?_
  refine xo_imul rfl ?_
  refine xo_iconstV (x := 2) rfl (by decide) ?_
  refine xo_iadd rfl ?_
  refine d_nn e (fun v24 g e1 => ?_)
  subst g
  replace e := e1
  clear e1
  refine d_iald rfl e (fun v25 e => ?_)
  refine xo_istore rfl (Nat.le_of_ble_eq_true rfl) rfl ?_
  refine xo_aload_nQ (w := (some v1)) rfl rfl ?_
  refine xo_iload_n rfl rfl ?_
  refine d_virtual_i (av := [.int l1]) (rest := []) rfl ⟨by decide, by decide⟩ rfl rfl (by simp [xv_fit, va_rf_cat, cat_int, cat_long, cat_ref, cat_null, show xt_mx 128 = 4 from rfl, show xt_lg 128 = [] from rfl]) (by simp [xv_room, va_rf_cat, cat_int, cat_long, cat_ref, cat_null]) (fun x0 h1 e1 => t128 e1) e (fun v26 h e => ?_)
  refine xo_pop rfl (by first | rfl | exact va_rf_cat _) ?_
  refine xo_aload_nQ (w := (some v1)) rfl rfl ?_
  refine d_getr rfl e (fun v27 e => ?_)
  refine xo_iload_n rfl rfl ?_
  refine d_nn e (fun v28 g e1 => ?_)
  subst g
  replace e := e1
  clear e1
  refine d_iald rfl e (fun v29 e => ?_)
  refine xo_istore rfl (Nat.le_of_ble_eq_true rfl) rfl ?_
  refine xo_iload_n rfl rfl ?_
  refine xo_iconstV (x := 1) rfl (by decide) ?_
  refine d_icmp_ne rfl rfl e (fun _ e => ?_) (fun _ e => ?_)
  · exact t129_124 e
  · exact t129_107 e
def b129_14 (F : Nat) : xm Int32 := mb (bz (0 : Int32)) fun _ => mr (0 : Int32)
theorem t129_14 {sc : Nat × (Nat → Int32)} {F : Nat} {r : Int32} {h' : xv_H} {d0 d1 d2 d3 d4 d5 d6 d7 d8 d9 d10 d11 : Option Value} {h : xv_H} (e : b129_14 F h = some (r, h')) : xx sc 129 14 [d0, d1, d2, d3, d4, d5, d6, d7, d8, d9, d10, d11] [] h (fun v g => v = some (.int r) ∧ g = h') := by
  unfold b129_14 at e
  refine xo_iconstV (x := 0) rfl (by decide) ?_
  exact d_zret rfl e
def b129_0 (F : Nat) (l0 : Option Nat) (l1 : Int32) : xm Int32 := mb (nn l0) fun v1 => mb (gi 915 v1) fun v2 => mb (m127 F l1 (0 : Int32) (v2 - (1 : Int32))) fun v3 => if ¬ v3 = 0 then b129_16 F (some v1) l1 else b129_14 F
theorem t129_0 {sc : Nat × (Nat → Int32)} {F : Nat} {r : Int32} {h' : xv_H} {l0 : Option Nat} {l1 : Int32} {d2 d3 d4 d5 d6 d7 d8 d9 d10 d11 : Option Value} {h : xv_H} (e : b129_0 F l0 l1 h = some (r, h')) : xx sc 129 0 [some (va_rf l0), some (.int l1), d2, d3, d4, d5, d6, d7, d8, d9, d10, d11] [] h (fun v g => v = some (.int r) ∧ g = h') := by
  unfold b129_0 at e
  refine xo_iload_n rfl rfl ?_
  refine xo_iconstV (x := 0) rfl (by decide) ?_
  refine xo_aload_nQ (w := l0) rfl rfl ?_
  refine d_nn e (fun v1 g e1 => ?_)
  subst g
  replace e := e1
  clear e1
  refine d_geti rfl e (fun v2 e => ?_)
  refine xo_iconstV (x := 1) rfl (by decide) ?_
  refine xo_isub rfl ?_
  refine d_static_i (av := [.int l1, .int (0 : Int32), .int (v2 - (1 : Int32))]) (rest := []) rfl ⟨by decide, by decide, by decide⟩ rfl rfl (by simp [xv_fit, va_rf_cat, cat_int, cat_long, cat_ref, cat_null, show xt_mx 127 = 3 from rfl, show xt_lg 127 = [] from rfl]) (by simp [xv_room, va_rf_cat, cat_int, cat_long, cat_ref, cat_null]) (fun x0 h1 e1 => t127 e1) e (fun v3 h e => ?_)
  refine d_if_ne rfl rfl e (fun _ e => ?_) (fun _ e => ?_)
  · exact t129_16 e
  · exact t129_14 e
def m129 (F : Nat) (this : Nat) (p0 : Int32) : xm Int32 := b129_0 F (some this) p0
theorem t129 {sc : Nat × (Nat → Int32)} {F : Nat} {this : Nat} {p0 : Int32} {h : xv_H} {r : Int32} {h' : xv_H} (e : m129 F this p0 h = some (r, h')) : xr sc 129 [.ref this, .int p0] h (fun v g => v = some (.int r) ∧ g = h') := by
  have e0 : xv_ent (xt_mx 129) [.ref this, .int p0] = [some (va_rf (some this)), some (.int p0), none, none, none, none, none, none, none, none, none, none] := by simp [xv_ent, xv_sl, va_rf_cat, cat_int, cat_long, cat_ref, cat_null, va_rf_some, show xt_mx 129 = 12 from rfl]
  unfold xr
  rw [e0]
  exact t129_0 e
-- CellTreeModel.recover(I)I
def b171_238 (F : Nat) (l2 : Int32) : xm Int32 := mr l2
theorem t171_238 {sc : Nat × (Nat → Int32)} {F : Nat} {r : Int32} {h' : xv_H} {l2 : Int32} {d0 d1 d3 d4 d5 d6 : Option Value} {h : xv_H} (e : b171_238 F l2 h = some (r, h')) : xx sc 171 238 [d0, d1, some (.int l2), d3, d4, d5, d6] [] h (fun v g => v = some (.int r) ∧ g = h') := by
  unfold b171_238 at e
  refine xo_iload_n rfl rfl ?_
  exact d_iret rfl e
def b171_232 (k160 : Option Nat → Int32 → Int32 → Int32 → Int32 → xm Int32) (F : Nat) (l0 : Option Nat) (l2 : Int32) (l3 : Int32) (l4 : Int32) (l5 : Int32) : xm Int32 := k160 l0 l2 l3 l4 (l5 + (1 : Int32))
theorem t171_232 {sc : Nat × (Nat → Int32)} {F : Nat} {r : Int32} {h' : xv_H} {k160 : Option Nat → Int32 → Int32 → Int32 → Int32 → xm Int32} (hk160 : ∀ (l0 : Option Nat) (l2 : Int32) (l3 : Int32) (l4 : Int32) (l5 : Int32) (d1 d6 : Option Value) (h : xv_H), k160 l0 l2 l3 l4 l5 h = some (r, h') → xx sc 171 160 [some (va_rf l0), d1, some (.int l2), some (.int l3), some (.int l4), some (.int l5), d6] [] h (fun v g => v = some (.int r) ∧ g = h')) {l0 : Option Nat} {l2 : Int32} {l3 : Int32} {l4 : Int32} {l5 : Int32} {d1 d6 : Option Value} {h : xv_H} (e : b171_232 k160 F l0 l2 l3 l4 l5 h = some (r, h')) : xx sc 171 232 [some (va_rf l0), d1, some (.int l2), some (.int l3), some (.int l4), some (.int l5), d6] [] h (fun v g => v = some (.int r) ∧ g = h') := by
  unfold b171_232 at e
  refine xo_iincV (z := 1) rfl (by decide) rfl (Nat.le_of_ble_eq_true rfl) rfl ?_
  refine xo_goto rfl rfl ?_
  exact hk160 _ _ _ _ _ _ _ _ e
def b171_220 (k160 : Option Nat → Int32 → Int32 → Int32 → Int32 → xm Int32) (F : Nat) (l0 : Option Nat) (l2 : Int32) (l3 : Int32) (l4 : Int32) (l5 : Int32) : xm Int32 := mb (nn l0) fun v1 => mb (gr 908 v1) fun v2 => mb (nn v2) fun v3 => mb (sb v3 (((3 : Int32) * l2) + l5) (3 : Int32)) fun _ => b171_232 k160 F (some v1) l2 l3 l4 l5
theorem t171_220 {sc : Nat × (Nat → Int32)} {F : Nat} {r : Int32} {h' : xv_H} {k160 : Option Nat → Int32 → Int32 → Int32 → Int32 → xm Int32} (hk160 : ∀ (l0 : Option Nat) (l2 : Int32) (l3 : Int32) (l4 : Int32) (l5 : Int32) (d1 d6 : Option Value) (h : xv_H), k160 l0 l2 l3 l4 l5 h = some (r, h') → xx sc 171 160 [some (va_rf l0), d1, some (.int l2), some (.int l3), some (.int l4), some (.int l5), d6] [] h (fun v g => v = some (.int r) ∧ g = h')) {l0 : Option Nat} {l2 : Int32} {l3 : Int32} {l4 : Int32} {l5 : Int32} {d1 d6 : Option Value} {h : xv_H} (e : b171_220 k160 F l0 l2 l3 l4 l5 h = some (r, h')) : xx sc 171 220 [some (va_rf l0), d1, some (.int l2), some (.int l3), some (.int l4), some (.int l5), d6] [] h (fun v g => v = some (.int r) ∧ g = h') := by
  unfold b171_220 at e
  refine xo_aload_nQ (w := l0) rfl rfl ?_
  refine d_nn e (fun v1 g e1 => ?_)
  subst g
  replace e := e1
  clear e1
  refine d_getr rfl e (fun v2 e => ?_)
  refine xo_iconstV (x := 3) rfl (by decide) ?_
  refine xo_iload_n rfl rfl ?_
  refine xo_imul rfl ?_
  refine xo_iload rfl rfl ?_
  refine xo_iadd rfl ?_
  refine xo_iconstV (x := 3) rfl (by decide) ?_
  refine d_nn e (fun v3 g e1 => ?_)
  subst g
  replace e := e1
  clear e1
  refine d_bast rfl e (fun h e => ?_)
  exact t171_232 hk160 e
def b171_214 (k160 : Option Nat → Int32 → Int32 → Int32 → Int32 → xm Int32) (F : Nat) (l0 : Option Nat) (l2 : Int32) (l3 : Int32) (l4 : Int32) (l5 : Int32) (l6 : Int32) : xm Int32 := if (2 : Int32) ≤ l6 then b171_232 k160 F l0 l2 l3 l4 l5 else b171_220 k160 F l0 l2 l3 l4 l5
theorem t171_214 {sc : Nat × (Nat → Int32)} {F : Nat} {r : Int32} {h' : xv_H} {k160 : Option Nat → Int32 → Int32 → Int32 → Int32 → xm Int32} (hk160 : ∀ (l0 : Option Nat) (l2 : Int32) (l3 : Int32) (l4 : Int32) (l5 : Int32) (d1 d6 : Option Value) (h : xv_H), k160 l0 l2 l3 l4 l5 h = some (r, h') → xx sc 171 160 [some (va_rf l0), d1, some (.int l2), some (.int l3), some (.int l4), some (.int l5), d6] [] h (fun v g => v = some (.int r) ∧ g = h')) {l0 : Option Nat} {l2 : Int32} {l3 : Int32} {l4 : Int32} {l5 : Int32} {l6 : Int32} {d1 : Option Value} {h : xv_H} (e : b171_214 k160 F l0 l2 l3 l4 l5 l6 h = some (r, h')) : xx sc 171 214 [some (va_rf l0), d1, some (.int l2), some (.int l3), some (.int l4), some (.int l5), some (.int l6)] [] h (fun v g => v = some (.int r) ∧ g = h') := by
  unfold b171_214 at e
  refine xo_iload rfl rfl ?_
  refine xo_iconstV (x := 2) rfl (by decide) ?_
  refine d_icmp_ge rfl rfl e (fun _ e => ?_) (fun _ e => ?_)
  · exact t171_232 hk160 e
  · exact t171_220 hk160 e
def b171_204 (k160 : Option Nat → Int32 → Int32 → Int32 → Int32 → xm Int32) (F : Nat) (l0 : Option Nat) (l2 : Int32) (l3 : Int32) (l4 : Int32) (l5 : Int32) : xm Int32 := mb (nn l0) fun v1 => mb (vc 9 v1) fun _ => mb (m137 F v1 l2 l5) fun _ => b171_232 k160 F (some v1) l2 l3 l4 l5
theorem t171_204 {sc : Nat × (Nat → Int32)} {F : Nat} {r : Int32} {h' : xv_H} {k160 : Option Nat → Int32 → Int32 → Int32 → Int32 → xm Int32} (hk160 : ∀ (l0 : Option Nat) (l2 : Int32) (l3 : Int32) (l4 : Int32) (l5 : Int32) (d1 d6 : Option Value) (h : xv_H), k160 l0 l2 l3 l4 l5 h = some (r, h') → xx sc 171 160 [some (va_rf l0), d1, some (.int l2), some (.int l3), some (.int l4), some (.int l5), d6] [] h (fun v g => v = some (.int r) ∧ g = h')) {l0 : Option Nat} {l2 : Int32} {l3 : Int32} {l4 : Int32} {l5 : Int32} {d1 d6 : Option Value} {h : xv_H} (e : b171_204 k160 F l0 l2 l3 l4 l5 h = some (r, h')) : xx sc 171 204 [some (va_rf l0), d1, some (.int l2), some (.int l3), some (.int l4), some (.int l5), d6] [] h (fun v g => v = some (.int r) ∧ g = h') := by
  unfold b171_204 at e
  refine xo_aload_nQ (w := l0) rfl rfl ?_
  refine xo_iload_n rfl rfl ?_
  refine xo_iload rfl rfl ?_
  refine d_nn e (fun v1 g e1 => ?_)
  subst g
  replace e := e1
  clear e1
  refine d_virtual_v (av := [.int l2, .int l5]) (rest := []) rfl ⟨by decide, by decide⟩ rfl rfl (by simp [xv_fit, va_rf_cat, cat_int, cat_long, cat_ref, cat_null, show xt_mx 137 = 6 from rfl, show xt_lg 137 = [] from rfl]) (by simp [xv_room, va_rf_cat, cat_int, cat_long, cat_ref, cat_null]) (fun x0 h1 e1 => t137 e1) e (fun _ h e => ?_)
  refine xo_goto rfl rfl ?_
  exact t171_232 hk160 e
def b171_200 (k160 : Option Nat → Int32 → Int32 → Int32 → Int32 → xm Int32) (F : Nat) (l0 : Option Nat) (l2 : Int32) (l3 : Int32) (l4 : Int32) (l5 : Int32) (l6 : Int32) : xm Int32 := if l3 = 0 then b171_214 k160 F l0 l2 l3 l4 l5 l6 else b171_204 k160 F l0 l2 l3 l4 l5
theorem t171_200 {sc : Nat × (Nat → Int32)} {F : Nat} {r : Int32} {h' : xv_H} {k160 : Option Nat → Int32 → Int32 → Int32 → Int32 → xm Int32} (hk160 : ∀ (l0 : Option Nat) (l2 : Int32) (l3 : Int32) (l4 : Int32) (l5 : Int32) (d1 d6 : Option Value) (h : xv_H), k160 l0 l2 l3 l4 l5 h = some (r, h') → xx sc 171 160 [some (va_rf l0), d1, some (.int l2), some (.int l3), some (.int l4), some (.int l5), d6] [] h (fun v g => v = some (.int r) ∧ g = h')) {l0 : Option Nat} {l2 : Int32} {l3 : Int32} {l4 : Int32} {l5 : Int32} {l6 : Int32} {d1 : Option Value} {h : xv_H} (e : b171_200 k160 F l0 l2 l3 l4 l5 l6 h = some (r, h')) : xx sc 171 200 [some (va_rf l0), d1, some (.int l2), some (.int l3), some (.int l4), some (.int l5), some (.int l6)] [] h (fun v g => v = some (.int r) ∧ g = h') := by
  unfold b171_200 at e
  refine xo_iload_n rfl rfl ?_
  refine d_if_eq rfl rfl e (fun _ e => ?_) (fun _ e => ?_)
  · exact t171_214 hk160 e
  · exact t171_204 hk160 e
def b171_195 (k160 : Option Nat → Int32 → Int32 → Int32 → Int32 → xm Int32) (F : Nat) (l0 : Option Nat) (l2 : Int32) (l3 : Int32) (l4 : Int32) (l5 : Int32) (l6 : Int32) : xm Int32 := if ¬ l4 = 0 then b171_204 k160 F l0 l2 l3 l4 l5 else b171_200 k160 F l0 l2 l3 l4 l5 l6
theorem t171_195 {sc : Nat × (Nat → Int32)} {F : Nat} {r : Int32} {h' : xv_H} {k160 : Option Nat → Int32 → Int32 → Int32 → Int32 → xm Int32} (hk160 : ∀ (l0 : Option Nat) (l2 : Int32) (l3 : Int32) (l4 : Int32) (l5 : Int32) (d1 d6 : Option Value) (h : xv_H), k160 l0 l2 l3 l4 l5 h = some (r, h') → xx sc 171 160 [some (va_rf l0), d1, some (.int l2), some (.int l3), some (.int l4), some (.int l5), d6] [] h (fun v g => v = some (.int r) ∧ g = h')) {l0 : Option Nat} {l2 : Int32} {l3 : Int32} {l4 : Int32} {l5 : Int32} {l6 : Int32} {d1 : Option Value} {h : xv_H} (e : b171_195 k160 F l0 l2 l3 l4 l5 l6 h = some (r, h')) : xx sc 171 195 [some (va_rf l0), d1, some (.int l2), some (.int l3), some (.int l4), some (.int l5), some (.int l6)] [] h (fun v g => v = some (.int r) ∧ g = h') := by
  unfold b171_195 at e
  refine xo_iload rfl rfl ?_
  refine d_if_ne rfl rfl e (fun _ e => ?_) (fun _ e => ?_)
  · exact t171_204 hk160 e
  · exact t171_200 hk160 e
def b171_176 (k160 : Option Nat → Int32 → Int32 → Int32 → Int32 → xm Int32) (F : Nat) (l0 : Option Nat) (l2 : Int32) (l3 : Int32) (l4 : Int32) (l5 : Int32) : xm Int32 := mb (nn l0) fun v1 => mb (gr 908 v1) fun v2 => mb (nn v2) fun v3 => mb (lb v3 (((3 : Int32) * l2) + l5)) fun v4 => if ¬ v4 = (1 : Int32) then b171_214 k160 F (some v1) l2 l3 l4 l5 v4 else b171_195 k160 F (some v1) l2 l3 l4 l5 v4
theorem t171_176 {sc : Nat × (Nat → Int32)} {F : Nat} {r : Int32} {h' : xv_H} {k160 : Option Nat → Int32 → Int32 → Int32 → Int32 → xm Int32} (hk160 : ∀ (l0 : Option Nat) (l2 : Int32) (l3 : Int32) (l4 : Int32) (l5 : Int32) (d1 d6 : Option Value) (h : xv_H), k160 l0 l2 l3 l4 l5 h = some (r, h') → xx sc 171 160 [some (va_rf l0), d1, some (.int l2), some (.int l3), some (.int l4), some (.int l5), d6] [] h (fun v g => v = some (.int r) ∧ g = h')) {l0 : Option Nat} {l2 : Int32} {l3 : Int32} {l4 : Int32} {l5 : Int32} {d1 d6 : Option Value} {h : xv_H} (e : b171_176 k160 F l0 l2 l3 l4 l5 h = some (r, h')) : xx sc 171 176 [some (va_rf l0), d1, some (.int l2), some (.int l3), some (.int l4), some (.int l5), d6] [] h (fun v g => v = some (.int r) ∧ g = h') := by
  unfold b171_176 at e
  refine xo_aload_nQ (w := l0) rfl rfl ?_
  refine d_nn e (fun v1 g e1 => ?_)
  subst g
  replace e := e1
  clear e1
  refine d_getr rfl e (fun v2 e => ?_)
  refine xo_iconstV (x := 3) rfl (by decide) ?_
  refine xo_iload_n rfl rfl ?_
  refine xo_imul rfl ?_
  refine xo_iload rfl rfl ?_
  refine xo_iadd rfl ?_
  refine d_nn e (fun v3 g e1 => ?_)
  subst g
  replace e := e1
  clear e1
  refine d_bald rfl e (fun v4 e => ?_)
  refine xo_istore rfl (Nat.le_of_ble_eq_true rfl) rfl ?_
  refine xo_iload rfl rfl ?_
  refine xo_iconstV (x := 1) rfl (by decide) ?_
  refine d_icmp_ne rfl rfl e (fun _ e => ?_) (fun _ e => ?_)
  · exact t171_214 hk160 e
  · exact t171_195 hk160 e
def b171_166 (k160 : Option Nat → Int32 → Int32 → Int32 → Int32 → xm Int32) (F : Nat) (l0 : Option Nat) (l2 : Int32) (l3 : Int32) (l4 : Int32) (l5 : Int32) : xm Int32 := mb (nn l0) fun v1 => mb (vc 9 v1) fun _ => mb (m136 F v1 l2 l5) fun v2 => if v2 = 0 then b171_232 k160 F (some v1) l2 l3 l4 l5 else b171_176 k160 F (some v1) l2 l3 l4 l5
theorem t171_166 {sc : Nat × (Nat → Int32)} {F : Nat} {r : Int32} {h' : xv_H} {k160 : Option Nat → Int32 → Int32 → Int32 → Int32 → xm Int32} (hk160 : ∀ (l0 : Option Nat) (l2 : Int32) (l3 : Int32) (l4 : Int32) (l5 : Int32) (d1 d6 : Option Value) (h : xv_H), k160 l0 l2 l3 l4 l5 h = some (r, h') → xx sc 171 160 [some (va_rf l0), d1, some (.int l2), some (.int l3), some (.int l4), some (.int l5), d6] [] h (fun v g => v = some (.int r) ∧ g = h')) {l0 : Option Nat} {l2 : Int32} {l3 : Int32} {l4 : Int32} {l5 : Int32} {d1 d6 : Option Value} {h : xv_H} (e : b171_166 k160 F l0 l2 l3 l4 l5 h = some (r, h')) : xx sc 171 166 [some (va_rf l0), d1, some (.int l2), some (.int l3), some (.int l4), some (.int l5), d6] [] h (fun v g => v = some (.int r) ∧ g = h') := by
  unfold b171_166 at e
  refine xo_aload_nQ (w := l0) rfl rfl ?_
  refine xo_iload_n rfl rfl ?_
  refine xo_iload rfl rfl ?_
  refine d_nn e (fun v1 g e1 => ?_)
  subst g
  replace e := e1
  clear e1
  refine d_virtual_i (av := [.int l2, .int l5]) (rest := []) rfl ⟨by decide, by decide⟩ rfl rfl (by simp [xv_fit, va_rf_cat, cat_int, cat_long, cat_ref, cat_null, show xt_mx 136 = 5 from rfl, show xt_lg 136 = [] from rfl]) (by simp [xv_room, va_rf_cat, cat_int, cat_long, cat_ref, cat_null]) (fun x0 h1 e1 => t136 e1) e (fun v2 h e => ?_)
  refine d_if_eq rfl rfl e (fun _ e => ?_) (fun _ e => ?_)
  · exact t171_232 hk160 e
  · exact t171_176 hk160 e
def b171_160 (F : Nat) : Nat → Option Nat → Int32 → Int32 → Int32 → Int32 → xm Int32
  | 0, _, _, _, _, _ => fun _ => none
  | f + 1, l0, l2, l3, l4, l5 => if (3 : Int32) ≤ l5 then b171_238 F l2 else b171_166 (b171_160 F f) F l0 l2 l3 l4 l5
theorem t171_160 {sc : Nat × (Nat → Int32)} {F : Nat} {r : Int32} {h' : xv_H} : ∀ (f : Nat) (l0 : Option Nat) (l2 : Int32) (l3 : Int32) (l4 : Int32) (l5 : Int32) (d1 d6 : Option Value) (h : xv_H), b171_160 F f l0 l2 l3 l4 l5 h = some (r, h') → xx sc 171 160 [some (va_rf l0), d1, some (.int l2), some (.int l3), some (.int l4), some (.int l5), d6] [] h (fun v g => v = some (.int r) ∧ g = h') := by
  intro f
  induction f with
  | zero => intro l0 l2 l3 l4 l5 d1 d6 h e; cases e
  | succ f ih =>
    intro l0 l2 l3 l4 l5 d1 d6 h e
    unfold b171_160 at e
    refine xo_iload rfl rfl ?_
    refine xo_iconstV (x := 3) rfl (by decide) ?_
    refine d_icmp_ge rfl rfl e (fun _ e => ?_) (fun _ e => ?_)
    · exact t171_238 e
    · exact t171_166 (fun a0 a1 a2 a3 a4 a5 a6 h e => ih a0 a1 a2 a3 a4 a5 a6 h e) e
def b171_157 (F : Nat) (l0 : Option Nat) (l2 : Int32) (l3 : Int32) (l4 : Int32) : xm Int32 := b171_160 F F l0 l2 l3 l4 (0 : Int32)
theorem t171_157 {sc : Nat × (Nat → Int32)} {F : Nat} {r : Int32} {h' : xv_H} {l0 : Option Nat} {l2 : Int32} {l3 : Int32} {l4 : Int32} {d1 d5 d6 : Option Value} {h : xv_H} (e : b171_157 F l0 l2 l3 l4 h = some (r, h')) : xx sc 171 157 [some (va_rf l0), d1, some (.int l2), some (.int l3), some (.int l4), d5, d6] [] h (fun v g => v = some (.int r) ∧ g = h') := by
  unfold b171_157 at e
  refine xo_iconstV (x := 0) rfl (by decide) ?_
  refine xo_istore rfl (Nat.le_of_ble_eq_true rfl) rfl ?_
  exact t171_160 F _ _ _ _ _ _ _ _ e
def b171_151 (k71 : Option Nat → Int32 → Int32 → Int32 → Int32 → xm Int32) (F : Nat) (l0 : Option Nat) (l2 : Int32) (l3 : Int32) (l4 : Int32) (l5 : Int32) : xm Int32 := k71 l0 l2 l3 l4 (l5 + (1 : Int32))
theorem t171_151 {sc : Nat × (Nat → Int32)} {F : Nat} {r : Int32} {h' : xv_H} {k71 : Option Nat → Int32 → Int32 → Int32 → Int32 → xm Int32} (hk71 : ∀ (l0 : Option Nat) (l2 : Int32) (l3 : Int32) (l4 : Int32) (l5 : Int32) (d1 d6 : Option Value) (h : xv_H), k71 l0 l2 l3 l4 l5 h = some (r, h') → xx sc 171 71 [some (va_rf l0), d1, some (.int l2), some (.int l3), some (.int l4), some (.int l5), d6] [] h (fun v g => v = some (.int r) ∧ g = h')) {l0 : Option Nat} {l2 : Int32} {l3 : Int32} {l4 : Int32} {l5 : Int32} {d1 d6 : Option Value} {h : xv_H} (e : b171_151 k71 F l0 l2 l3 l4 l5 h = some (r, h')) : xx sc 171 151 [some (va_rf l0), d1, some (.int l2), some (.int l3), some (.int l4), some (.int l5), d6] [] h (fun v g => v = some (.int r) ∧ g = h') := by
  unfold b171_151 at e
  refine xo_iincV (z := 1) rfl (by decide) rfl (Nat.le_of_ble_eq_true rfl) rfl ?_
  refine xo_goto rfl rfl ?_
  exact hk71 _ _ _ _ _ _ _ _ e
def b171_149 (k71 : Option Nat → Int32 → Int32 → Int32 → Int32 → xm Int32) (F : Nat) (s0 : Int32) (l0 : Option Nat) (l2 : Int32) (l3 : Int32) (l5 : Int32) : xm Int32 := b171_151 k71 F l0 l2 l3 s0 l5
theorem t171_149 {sc : Nat × (Nat → Int32)} {F : Nat} {r : Int32} {h' : xv_H} {k71 : Option Nat → Int32 → Int32 → Int32 → Int32 → xm Int32} (hk71 : ∀ (l0 : Option Nat) (l2 : Int32) (l3 : Int32) (l4 : Int32) (l5 : Int32) (d1 d6 : Option Value) (h : xv_H), k71 l0 l2 l3 l4 l5 h = some (r, h') → xx sc 171 71 [some (va_rf l0), d1, some (.int l2), some (.int l3), some (.int l4), some (.int l5), d6] [] h (fun v g => v = some (.int r) ∧ g = h')) {s0 : Int32} {l0 : Option Nat} {l2 : Int32} {l3 : Int32} {l5 : Int32} {d1 d4 d6 : Option Value} {h : xv_H} (e : b171_149 k71 F s0 l0 l2 l3 l5 h = some (r, h')) : xx sc 171 149 [some (va_rf l0), d1, some (.int l2), some (.int l3), d4, some (.int l5), d6] [.int s0] h (fun v g => v = some (.int r) ∧ g = h') := by
  unfold b171_149 at e
  refine xo_istore rfl (Nat.le_of_ble_eq_true rfl) rfl ?_
  exact t171_151 hk71 e
def b171_148 (k71 : Option Nat → Int32 → Int32 → Int32 → Int32 → xm Int32) (F : Nat) (l0 : Option Nat) (l2 : Int32) (l3 : Int32) (l5 : Int32) : xm Int32 := b171_149 k71 F (0 : Int32) l0 l2 l3 l5
theorem t171_148 {sc : Nat × (Nat → Int32)} {F : Nat} {r : Int32} {h' : xv_H} {k71 : Option Nat → Int32 → Int32 → Int32 → Int32 → xm Int32} (hk71 : ∀ (l0 : Option Nat) (l2 : Int32) (l3 : Int32) (l4 : Int32) (l5 : Int32) (d1 d6 : Option Value) (h : xv_H), k71 l0 l2 l3 l4 l5 h = some (r, h') → xx sc 171 71 [some (va_rf l0), d1, some (.int l2), some (.int l3), some (.int l4), some (.int l5), d6] [] h (fun v g => v = some (.int r) ∧ g = h')) {l0 : Option Nat} {l2 : Int32} {l3 : Int32} {l5 : Int32} {d1 d4 d6 : Option Value} {h : xv_H} (e : b171_148 k71 F l0 l2 l3 l5 h = some (r, h')) : xx sc 171 148 [some (va_rf l0), d1, some (.int l2), some (.int l3), d4, some (.int l5), d6] [] h (fun v g => v = some (.int r) ∧ g = h') := by
  unfold b171_148 at e
  refine xo_iconstV (x := 0) rfl (by decide) ?_
  exact t171_149 hk71 e
def b171_144 (k71 : Option Nat → Int32 → Int32 → Int32 → Int32 → xm Int32) (F : Nat) (l0 : Option Nat) (l2 : Int32) (l3 : Int32) (l5 : Int32) : xm Int32 := b171_149 k71 F (1 : Int32) l0 l2 l3 l5
theorem t171_144 {sc : Nat × (Nat → Int32)} {F : Nat} {r : Int32} {h' : xv_H} {k71 : Option Nat → Int32 → Int32 → Int32 → Int32 → xm Int32} (hk71 : ∀ (l0 : Option Nat) (l2 : Int32) (l3 : Int32) (l4 : Int32) (l5 : Int32) (d1 d6 : Option Value) (h : xv_H), k71 l0 l2 l3 l4 l5 h = some (r, h') → xx sc 171 71 [some (va_rf l0), d1, some (.int l2), some (.int l3), some (.int l4), some (.int l5), d6] [] h (fun v g => v = some (.int r) ∧ g = h')) {l0 : Option Nat} {l2 : Int32} {l3 : Int32} {l5 : Int32} {d1 d4 d6 : Option Value} {h : xv_H} (e : b171_144 k71 F l0 l2 l3 l5 h = some (r, h')) : xx sc 171 144 [some (va_rf l0), d1, some (.int l2), some (.int l3), d4, some (.int l5), d6] [] h (fun v g => v = some (.int r) ∧ g = h') := by
  unfold b171_144 at e
  refine xo_iconstV (x := 1) rfl (by decide) ?_
  refine xo_goto rfl rfl ?_
  exact t171_149 hk71 e
def b171_129 (k71 : Option Nat → Int32 → Int32 → Int32 → Int32 → xm Int32) (F : Nat) (l0 : Option Nat) (l2 : Int32) (l3 : Int32) (l5 : Int32) : xm Int32 := mb (nn l0) fun v1 => mb (gr 908 v1) fun v2 => mb (nn v2) fun v3 => mb (lb v3 (((3 : Int32) * l2) + l5)) fun v4 => if ¬ v4 = (2 : Int32) then b171_148 k71 F (some v1) l2 l3 l5 else b171_144 k71 F (some v1) l2 l3 l5
theorem t171_129 {sc : Nat × (Nat → Int32)} {F : Nat} {r : Int32} {h' : xv_H} {k71 : Option Nat → Int32 → Int32 → Int32 → Int32 → xm Int32} (hk71 : ∀ (l0 : Option Nat) (l2 : Int32) (l3 : Int32) (l4 : Int32) (l5 : Int32) (d1 d6 : Option Value) (h : xv_H), k71 l0 l2 l3 l4 l5 h = some (r, h') → xx sc 171 71 [some (va_rf l0), d1, some (.int l2), some (.int l3), some (.int l4), some (.int l5), d6] [] h (fun v g => v = some (.int r) ∧ g = h')) {l0 : Option Nat} {l2 : Int32} {l3 : Int32} {l5 : Int32} {d1 d4 d6 : Option Value} {h : xv_H} (e : b171_129 k71 F l0 l2 l3 l5 h = some (r, h')) : xx sc 171 129 [some (va_rf l0), d1, some (.int l2), some (.int l3), d4, some (.int l5), d6] [] h (fun v g => v = some (.int r) ∧ g = h') := by
  unfold b171_129 at e
  refine xo_aload_nQ (w := l0) rfl rfl ?_
  refine d_nn e (fun v1 g e1 => ?_)
  subst g
  replace e := e1
  clear e1
  refine d_getr rfl e (fun v2 e => ?_)
  refine xo_iconstV (x := 3) rfl (by decide) ?_
  refine xo_iload_n rfl rfl ?_
  refine xo_imul rfl ?_
  refine xo_iload rfl rfl ?_
  refine xo_iadd rfl ?_
  refine d_nn e (fun v3 g e1 => ?_)
  subst g
  replace e := e1
  clear e1
  refine d_bald rfl e (fun v4 e => ?_)
  refine xo_iconstV (x := 2) rfl (by decide) ?_
  refine d_icmp_ne rfl rfl e (fun _ e => ?_) (fun _ e => ?_)
  · exact t171_148 hk71 e
  · exact t171_144 hk71 e
def b171_123 (k71 : Option Nat → Int32 → Int32 → Int32 → Int32 → xm Int32) (F : Nat) (s0 : Int32) (l0 : Option Nat) (l2 : Int32) (l4 : Int32) (l5 : Int32) : xm Int32 := if ¬ l4 = 0 then b171_144 k71 F l0 l2 s0 l5 else b171_129 k71 F l0 l2 s0 l5
theorem t171_123 {sc : Nat × (Nat → Int32)} {F : Nat} {r : Int32} {h' : xv_H} {k71 : Option Nat → Int32 → Int32 → Int32 → Int32 → xm Int32} (hk71 : ∀ (l0 : Option Nat) (l2 : Int32) (l3 : Int32) (l4 : Int32) (l5 : Int32) (d1 d6 : Option Value) (h : xv_H), k71 l0 l2 l3 l4 l5 h = some (r, h') → xx sc 171 71 [some (va_rf l0), d1, some (.int l2), some (.int l3), some (.int l4), some (.int l5), d6] [] h (fun v g => v = some (.int r) ∧ g = h')) {s0 : Int32} {l0 : Option Nat} {l2 : Int32} {l4 : Int32} {l5 : Int32} {d1 d3 d6 : Option Value} {h : xv_H} (e : b171_123 k71 F s0 l0 l2 l4 l5 h = some (r, h')) : xx sc 171 123 [some (va_rf l0), d1, some (.int l2), d3, some (.int l4), some (.int l5), d6] [.int s0] h (fun v g => v = some (.int r) ∧ g = h') := by
  unfold b171_123 at e
  refine xo_istore_n rfl (Nat.le_of_ble_eq_true rfl) rfl ?_
  refine xo_iload rfl rfl ?_
  refine d_if_ne rfl rfl e (fun _ e => ?_) (fun _ e => ?_)
  · exact t171_144 hk71 e
  · exact t171_129 hk71 e
def b171_122 (k71 : Option Nat → Int32 → Int32 → Int32 → Int32 → xm Int32) (F : Nat) (l0 : Option Nat) (l2 : Int32) (l4 : Int32) (l5 : Int32) : xm Int32 := b171_123 k71 F (0 : Int32) l0 l2 l4 l5
theorem t171_122 {sc : Nat × (Nat → Int32)} {F : Nat} {r : Int32} {h' : xv_H} {k71 : Option Nat → Int32 → Int32 → Int32 → Int32 → xm Int32} (hk71 : ∀ (l0 : Option Nat) (l2 : Int32) (l3 : Int32) (l4 : Int32) (l5 : Int32) (d1 d6 : Option Value) (h : xv_H), k71 l0 l2 l3 l4 l5 h = some (r, h') → xx sc 171 71 [some (va_rf l0), d1, some (.int l2), some (.int l3), some (.int l4), some (.int l5), d6] [] h (fun v g => v = some (.int r) ∧ g = h')) {l0 : Option Nat} {l2 : Int32} {l4 : Int32} {l5 : Int32} {d1 d3 d6 : Option Value} {h : xv_H} (e : b171_122 k71 F l0 l2 l4 l5 h = some (r, h')) : xx sc 171 122 [some (va_rf l0), d1, some (.int l2), d3, some (.int l4), some (.int l5), d6] [] h (fun v g => v = some (.int r) ∧ g = h') := by
  unfold b171_122 at e
  refine xo_iconstV (x := 0) rfl (by decide) ?_
  exact t171_123 hk71 e
def b171_118 (k71 : Option Nat → Int32 → Int32 → Int32 → Int32 → xm Int32) (F : Nat) (l0 : Option Nat) (l2 : Int32) (l4 : Int32) (l5 : Int32) : xm Int32 := b171_123 k71 F (1 : Int32) l0 l2 l4 l5
theorem t171_118 {sc : Nat × (Nat → Int32)} {F : Nat} {r : Int32} {h' : xv_H} {k71 : Option Nat → Int32 → Int32 → Int32 → Int32 → xm Int32} (hk71 : ∀ (l0 : Option Nat) (l2 : Int32) (l3 : Int32) (l4 : Int32) (l5 : Int32) (d1 d6 : Option Value) (h : xv_H), k71 l0 l2 l3 l4 l5 h = some (r, h') → xx sc 171 71 [some (va_rf l0), d1, some (.int l2), some (.int l3), some (.int l4), some (.int l5), d6] [] h (fun v g => v = some (.int r) ∧ g = h')) {l0 : Option Nat} {l2 : Int32} {l4 : Int32} {l5 : Int32} {d1 d3 d6 : Option Value} {h : xv_H} (e : b171_118 k71 F l0 l2 l4 l5 h = some (r, h')) : xx sc 171 118 [some (va_rf l0), d1, some (.int l2), d3, some (.int l4), some (.int l5), d6] [] h (fun v g => v = some (.int r) ∧ g = h') := by
  unfold b171_118 at e
  refine xo_iconstV (x := 1) rfl (by decide) ?_
  refine xo_goto rfl rfl ?_
  exact t171_123 hk71 e
def b171_103 (k71 : Option Nat → Int32 → Int32 → Int32 → Int32 → xm Int32) (F : Nat) (l0 : Option Nat) (l2 : Int32) (l4 : Int32) (l5 : Int32) : xm Int32 := mb (nn l0) fun v1 => mb (gr 908 v1) fun v2 => mb (nn v2) fun v3 => mb (lb v3 (((3 : Int32) * l2) + l5)) fun v4 => if ¬ v4 = (1 : Int32) then b171_122 k71 F (some v1) l2 l4 l5 else b171_118 k71 F (some v1) l2 l4 l5
theorem t171_103 {sc : Nat × (Nat → Int32)} {F : Nat} {r : Int32} {h' : xv_H} {k71 : Option Nat → Int32 → Int32 → Int32 → Int32 → xm Int32} (hk71 : ∀ (l0 : Option Nat) (l2 : Int32) (l3 : Int32) (l4 : Int32) (l5 : Int32) (d1 d6 : Option Value) (h : xv_H), k71 l0 l2 l3 l4 l5 h = some (r, h') → xx sc 171 71 [some (va_rf l0), d1, some (.int l2), some (.int l3), some (.int l4), some (.int l5), d6] [] h (fun v g => v = some (.int r) ∧ g = h')) {l0 : Option Nat} {l2 : Int32} {l4 : Int32} {l5 : Int32} {d1 d3 d6 : Option Value} {h : xv_H} (e : b171_103 k71 F l0 l2 l4 l5 h = some (r, h')) : xx sc 171 103 [some (va_rf l0), d1, some (.int l2), d3, some (.int l4), some (.int l5), d6] [] h (fun v g => v = some (.int r) ∧ g = h') := by
  unfold b171_103 at e
  refine xo_aload_nQ (w := l0) rfl rfl ?_
  refine d_nn e (fun v1 g e1 => ?_)
  subst g
  replace e := e1
  clear e1
  refine d_getr rfl e (fun v2 e => ?_)
  refine xo_iconstV (x := 3) rfl (by decide) ?_
  refine xo_iload_n rfl rfl ?_
  refine xo_imul rfl ?_
  refine xo_iload rfl rfl ?_
  refine xo_iadd rfl ?_
  refine d_nn e (fun v3 g e1 => ?_)
  subst g
  replace e := e1
  clear e1
  refine d_bald rfl e (fun v4 e => ?_)
  refine xo_iconstV (x := 1) rfl (by decide) ?_
  refine d_icmp_ne rfl rfl e (fun _ e => ?_) (fun _ e => ?_)
  · exact t171_122 hk71 e
  · exact t171_118 hk71 e
def b171_99 (k71 : Option Nat → Int32 → Int32 → Int32 → Int32 → xm Int32) (F : Nat) (l0 : Option Nat) (l2 : Int32) (l3 : Int32) (l4 : Int32) (l5 : Int32) : xm Int32 := if l3 = 0 then b171_122 k71 F l0 l2 l4 l5 else b171_103 k71 F l0 l2 l4 l5
theorem t171_99 {sc : Nat × (Nat → Int32)} {F : Nat} {r : Int32} {h' : xv_H} {k71 : Option Nat → Int32 → Int32 → Int32 → Int32 → xm Int32} (hk71 : ∀ (l0 : Option Nat) (l2 : Int32) (l3 : Int32) (l4 : Int32) (l5 : Int32) (d1 d6 : Option Value) (h : xv_H), k71 l0 l2 l3 l4 l5 h = some (r, h') → xx sc 171 71 [some (va_rf l0), d1, some (.int l2), some (.int l3), some (.int l4), some (.int l5), d6] [] h (fun v g => v = some (.int r) ∧ g = h')) {l0 : Option Nat} {l2 : Int32} {l3 : Int32} {l4 : Int32} {l5 : Int32} {d1 d6 : Option Value} {h : xv_H} (e : b171_99 k71 F l0 l2 l3 l4 l5 h = some (r, h')) : xx sc 171 99 [some (va_rf l0), d1, some (.int l2), some (.int l3), some (.int l4), some (.int l5), d6] [] h (fun v g => v = some (.int r) ∧ g = h') := by
  unfold b171_99 at e
  refine xo_iload_n rfl rfl ?_
  refine d_if_eq rfl rfl e (fun _ e => ?_) (fun _ e => ?_)
  · exact t171_122 hk71 e
  · exact t171_103 hk71 e
def b171_97 (k71 : Option Nat → Int32 → Int32 → Int32 → Int32 → xm Int32) (F : Nat) : xm Int32 := mr (-1 : Int32)
theorem t171_97 {sc : Nat × (Nat → Int32)} {F : Nat} {r : Int32} {h' : xv_H} {k71 : Option Nat → Int32 → Int32 → Int32 → Int32 → xm Int32} (hk71 : ∀ (l0 : Option Nat) (l2 : Int32) (l3 : Int32) (l4 : Int32) (l5 : Int32) (d1 d6 : Option Value) (h : xv_H), k71 l0 l2 l3 l4 l5 h = some (r, h') → xx sc 171 71 [some (va_rf l0), d1, some (.int l2), some (.int l3), some (.int l4), some (.int l5), d6] [] h (fun v g => v = some (.int r) ∧ g = h')) {d0 d1 d2 d3 d4 d5 d6 : Option Value} {h : xv_H} (e : b171_97 k71 F h = some (r, h')) : xx sc 171 97 [d0, d1, d2, d3, d4, d5, d6] [] h (fun v g => v = some (.int r) ∧ g = h') := by
  unfold b171_97 at e
  refine xo_iconstV (x := (-1)) rfl (by decide) ?_
  exact d_iret rfl e
def b171_87 (k71 : Option Nat → Int32 → Int32 → Int32 → Int32 → xm Int32) (F : Nat) (l0 : Option Nat) (l2 : Int32) (l3 : Int32) (l4 : Int32) (l5 : Int32) : xm Int32 := mb (nn l0) fun v1 => mb (gr 900 v1) fun v2 => mb (nn v2) fun v3 => mb (lb v3 l5) fun v4 => if v4 = 0 then b171_99 k71 F (some v1) l2 l3 l4 l5 else b171_97 k71 F
theorem t171_87 {sc : Nat × (Nat → Int32)} {F : Nat} {r : Int32} {h' : xv_H} {k71 : Option Nat → Int32 → Int32 → Int32 → Int32 → xm Int32} (hk71 : ∀ (l0 : Option Nat) (l2 : Int32) (l3 : Int32) (l4 : Int32) (l5 : Int32) (d1 d6 : Option Value) (h : xv_H), k71 l0 l2 l3 l4 l5 h = some (r, h') → xx sc 171 71 [some (va_rf l0), d1, some (.int l2), some (.int l3), some (.int l4), some (.int l5), d6] [] h (fun v g => v = some (.int r) ∧ g = h')) {l0 : Option Nat} {l2 : Int32} {l3 : Int32} {l4 : Int32} {l5 : Int32} {d1 d6 : Option Value} {h : xv_H} (e : b171_87 k71 F l0 l2 l3 l4 l5 h = some (r, h')) : xx sc 171 87 [some (va_rf l0), d1, some (.int l2), some (.int l3), some (.int l4), some (.int l5), d6] [] h (fun v g => v = some (.int r) ∧ g = h') := by
  unfold b171_87 at e
  refine xo_aload_nQ (w := l0) rfl rfl ?_
  refine d_nn e (fun v1 g e1 => ?_)
  subst g
  replace e := e1
  clear e1
  refine d_getr rfl e (fun v2 e => ?_)
  refine xo_iload rfl rfl ?_
  refine d_nn e (fun v3 g e1 => ?_)
  subst g
  replace e := e1
  clear e1
  refine d_bald rfl e (fun v4 e => ?_)
  refine d_if_eq rfl rfl e (fun _ e => ?_) (fun _ e => ?_)
  · exact t171_99 hk71 e
  · exact t171_97 hk71 e
def b171_77 (k71 : Option Nat → Int32 → Int32 → Int32 → Int32 → xm Int32) (F : Nat) (l0 : Option Nat) (l2 : Int32) (l3 : Int32) (l4 : Int32) (l5 : Int32) : xm Int32 := mb (nn l0) fun v1 => mb (vc 9 v1) fun _ => mb (m136 F v1 l2 l5) fun v2 => if v2 = 0 then b171_151 k71 F (some v1) l2 l3 l4 l5 else b171_87 k71 F (some v1) l2 l3 l4 l5
theorem t171_77 {sc : Nat × (Nat → Int32)} {F : Nat} {r : Int32} {h' : xv_H} {k71 : Option Nat → Int32 → Int32 → Int32 → Int32 → xm Int32} (hk71 : ∀ (l0 : Option Nat) (l2 : Int32) (l3 : Int32) (l4 : Int32) (l5 : Int32) (d1 d6 : Option Value) (h : xv_H), k71 l0 l2 l3 l4 l5 h = some (r, h') → xx sc 171 71 [some (va_rf l0), d1, some (.int l2), some (.int l3), some (.int l4), some (.int l5), d6] [] h (fun v g => v = some (.int r) ∧ g = h')) {l0 : Option Nat} {l2 : Int32} {l3 : Int32} {l4 : Int32} {l5 : Int32} {d1 d6 : Option Value} {h : xv_H} (e : b171_77 k71 F l0 l2 l3 l4 l5 h = some (r, h')) : xx sc 171 77 [some (va_rf l0), d1, some (.int l2), some (.int l3), some (.int l4), some (.int l5), d6] [] h (fun v g => v = some (.int r) ∧ g = h') := by
  unfold b171_77 at e
  refine xo_aload_nQ (w := l0) rfl rfl ?_
  refine xo_iload_n rfl rfl ?_
  refine xo_iload rfl rfl ?_
  refine d_nn e (fun v1 g e1 => ?_)
  subst g
  replace e := e1
  clear e1
  refine d_virtual_i (av := [.int l2, .int l5]) (rest := []) rfl ⟨by decide, by decide⟩ rfl rfl (by simp [xv_fit, va_rf_cat, cat_int, cat_long, cat_ref, cat_null, show xt_mx 136 = 5 from rfl, show xt_lg 136 = [] from rfl]) (by simp [xv_room, va_rf_cat, cat_int, cat_long, cat_ref, cat_null]) (fun x0 h1 e1 => t136 e1) e (fun v2 h e => ?_)
  refine d_if_eq rfl rfl e (fun _ e => ?_) (fun _ e => ?_)
  · exact t171_151 hk71 e
  · exact t171_87 hk71 e
def b171_71 (F : Nat) : Nat → Option Nat → Int32 → Int32 → Int32 → Int32 → xm Int32
  | 0, _, _, _, _, _ => fun _ => none
  | f + 1, l0, l2, l3, l4, l5 => if (3 : Int32) ≤ l5 then b171_157 F l0 l2 l3 l4 else b171_77 (b171_71 F f) F l0 l2 l3 l4 l5
theorem t171_71 {sc : Nat × (Nat → Int32)} {F : Nat} {r : Int32} {h' : xv_H} : ∀ (f : Nat) (l0 : Option Nat) (l2 : Int32) (l3 : Int32) (l4 : Int32) (l5 : Int32) (d1 d6 : Option Value) (h : xv_H), b171_71 F f l0 l2 l3 l4 l5 h = some (r, h') → xx sc 171 71 [some (va_rf l0), d1, some (.int l2), some (.int l3), some (.int l4), some (.int l5), d6] [] h (fun v g => v = some (.int r) ∧ g = h') := by
  intro f
  induction f with
  | zero => intro l0 l2 l3 l4 l5 d1 d6 h e; cases e
  | succ f ih =>
    intro l0 l2 l3 l4 l5 d1 d6 h e
    unfold b171_71 at e
    refine xo_iload rfl rfl ?_
    refine xo_iconstV (x := 3) rfl (by decide) ?_
    refine d_icmp_ge rfl rfl e (fun _ e => ?_) (fun _ e => ?_)
    · exact t171_157 e
    · exact t171_77 (fun a0 a1 a2 a3 a4 a5 a6 h e => ih a0 a1 a2 a3 a4 a5 a6 h e) e
def b171_63 (F : Nat) (l0 : Option Nat) (l2 : Int32) : xm Int32 := b171_71 F F l0 l2 (1 : Int32) (0 : Int32) (0 : Int32)
theorem t171_63 {sc : Nat × (Nat → Int32)} {F : Nat} {r : Int32} {h' : xv_H} {l0 : Option Nat} {l2 : Int32} {d1 d3 d4 d5 d6 : Option Value} {h : xv_H} (e : b171_63 F l0 l2 h = some (r, h')) : xx sc 171 63 [some (va_rf l0), d1, some (.int l2), d3, d4, d5, d6] [] h (fun v g => v = some (.int r) ∧ g = h') := by
  unfold b171_63 at e
  refine xo_iconstV (x := 1) rfl (by decide) ?_
  refine xo_istore_n rfl (Nat.le_of_ble_eq_true rfl) rfl ?_
  refine xo_iconstV (x := 0) rfl (by decide) ?_
  refine xo_istore rfl (Nat.le_of_ble_eq_true rfl) rfl ?_
  refine xo_iconstV (x := 0) rfl (by decide) ?_
  refine xo_istore rfl (Nat.le_of_ble_eq_true rfl) rfl ?_
  exact t171_71 F _ _ _ _ _ _ _ _ e
def b171_61 (F : Nat) : xm Int32 := mr (-1 : Int32)
theorem t171_61 {sc : Nat × (Nat → Int32)} {F : Nat} {r : Int32} {h' : xv_H} {d0 d1 d2 d3 d4 d5 d6 : Option Value} {h : xv_H} (e : b171_61 F h = some (r, h')) : xx sc 171 61 [d0, d1, d2, d3, d4, d5, d6] [] h (fun v g => v = some (.int r) ∧ g = h') := by
  unfold b171_61 at e
  refine xo_iconstV (x := (-1)) rfl (by decide) ?_
  exact d_iret rfl e
def b171_57 (F : Nat) (l0 : Option Nat) (l2 : Int32) : xm Int32 := if ¬ l2 = 0 then b171_63 F l0 l2 else b171_61 F
theorem t171_57 {sc : Nat × (Nat → Int32)} {F : Nat} {r : Int32} {h' : xv_H} {l0 : Option Nat} {l2 : Int32} {d1 d3 d4 d5 d6 : Option Value} {h : xv_H} (e : b171_57 F l0 l2 h = some (r, h')) : xx sc 171 57 [some (va_rf l0), d1, some (.int l2), d3, d4, d5, d6] [] h (fun v g => v = some (.int r) ∧ g = h') := by
  unfold b171_57 at e
  refine xo_iload_n rfl rfl ?_
  refine d_if_ne rfl rfl e (fun _ e => ?_) (fun _ e => ?_)
  · exact t171_63 e
  · exact t171_61 e
def b171_50 (k27 : Option Nat → Int32 → Int32 → Int32 → xm Int32) (F : Nat) (s0 : Int32) (l0 : Option Nat) (l1 : Int32) (l3 : Int32) : xm Int32 := k27 l0 l1 s0 (l3 + (-1 : Int32))
theorem t171_50 {sc : Nat × (Nat → Int32)} {F : Nat} {r : Int32} {h' : xv_H} {k27 : Option Nat → Int32 → Int32 → Int32 → xm Int32} (hk27 : ∀ (l0 : Option Nat) (l1 : Int32) (l2 : Int32) (l3 : Int32) (d4 d5 d6 : Option Value) (h : xv_H), k27 l0 l1 l2 l3 h = some (r, h') → xx sc 171 27 [some (va_rf l0), some (.int l1), some (.int l2), some (.int l3), d4, d5, d6] [] h (fun v g => v = some (.int r) ∧ g = h')) {s0 : Int32} {l0 : Option Nat} {l1 : Int32} {l3 : Int32} {d2 d4 d5 d6 : Option Value} {h : xv_H} (e : b171_50 k27 F s0 l0 l1 l3 h = some (r, h')) : xx sc 171 50 [some (va_rf l0), some (.int l1), d2, some (.int l3), d4, d5, d6] [.int s0] h (fun v g => v = some (.int r) ∧ g = h') := by
  unfold b171_50 at e
  refine xo_istore_n rfl (Nat.le_of_ble_eq_true rfl) rfl ?_
  refine xo_iincV (z := (-1)) rfl (by decide) rfl (Nat.le_of_ble_eq_true rfl) rfl ?_
  refine xo_goto rfl rfl ?_
  exact hk27 _ _ _ _ _ _ _ _ e
def b171_49 (k27 : Option Nat → Int32 → Int32 → Int32 → xm Int32) (F : Nat) (l0 : Option Nat) (l1 : Int32) (l2 : Int32) (l3 : Int32) : xm Int32 := b171_50 k27 F l2 l0 l1 l3
theorem t171_49 {sc : Nat × (Nat → Int32)} {F : Nat} {r : Int32} {h' : xv_H} {k27 : Option Nat → Int32 → Int32 → Int32 → xm Int32} (hk27 : ∀ (l0 : Option Nat) (l1 : Int32) (l2 : Int32) (l3 : Int32) (d4 d5 d6 : Option Value) (h : xv_H), k27 l0 l1 l2 l3 h = some (r, h') → xx sc 171 27 [some (va_rf l0), some (.int l1), some (.int l2), some (.int l3), d4, d5, d6] [] h (fun v g => v = some (.int r) ∧ g = h')) {l0 : Option Nat} {l1 : Int32} {l2 : Int32} {l3 : Int32} {d4 d5 d6 : Option Value} {h : xv_H} (e : b171_49 k27 F l0 l1 l2 l3 h = some (r, h')) : xx sc 171 49 [some (va_rf l0), some (.int l1), some (.int l2), some (.int l3), d4, d5, d6] [] h (fun v g => v = some (.int r) ∧ g = h') := by
  unfold b171_49 at e
  refine xo_iload_n rfl rfl ?_
  exact t171_50 hk27 e
def b171_45 (k27 : Option Nat → Int32 → Int32 → Int32 → xm Int32) (F : Nat) (l0 : Option Nat) (l1 : Int32) (l3 : Int32) : xm Int32 := b171_50 k27 F l3 l0 l1 l3
theorem t171_45 {sc : Nat × (Nat → Int32)} {F : Nat} {r : Int32} {h' : xv_H} {k27 : Option Nat → Int32 → Int32 → Int32 → xm Int32} (hk27 : ∀ (l0 : Option Nat) (l1 : Int32) (l2 : Int32) (l3 : Int32) (d4 d5 d6 : Option Value) (h : xv_H), k27 l0 l1 l2 l3 h = some (r, h') → xx sc 171 27 [some (va_rf l0), some (.int l1), some (.int l2), some (.int l3), d4, d5, d6] [] h (fun v g => v = some (.int r) ∧ g = h')) {l0 : Option Nat} {l1 : Int32} {l3 : Int32} {d2 d4 d5 d6 : Option Value} {h : xv_H} (e : b171_45 k27 F l0 l1 l3 h = some (r, h')) : xx sc 171 45 [some (va_rf l0), some (.int l1), d2, some (.int l3), d4, d5, d6] [] h (fun v g => v = some (.int r) ∧ g = h') := by
  unfold b171_45 at e
  refine xo_iload_n rfl rfl ?_
  refine xo_goto rfl rfl ?_
  exact t171_50 hk27 e
def b171_31 (k27 : Option Nat → Int32 → Int32 → Int32 → xm Int32) (F : Nat) (l0 : Option Nat) (l1 : Int32) (l2 : Int32) (l3 : Int32) : xm Int32 := mb (nn l0) fun v1 => mb (gr 908 v1) fun v2 => mb (nn v2) fun v3 => mb (lb v3 (((3 : Int32) * l3) + l1)) fun v4 => if ¬ v4 = (1 : Int32) then b171_49 k27 F (some v1) l1 l2 l3 else b171_45 k27 F (some v1) l1 l3
theorem t171_31 {sc : Nat × (Nat → Int32)} {F : Nat} {r : Int32} {h' : xv_H} {k27 : Option Nat → Int32 → Int32 → Int32 → xm Int32} (hk27 : ∀ (l0 : Option Nat) (l1 : Int32) (l2 : Int32) (l3 : Int32) (d4 d5 d6 : Option Value) (h : xv_H), k27 l0 l1 l2 l3 h = some (r, h') → xx sc 171 27 [some (va_rf l0), some (.int l1), some (.int l2), some (.int l3), d4, d5, d6] [] h (fun v g => v = some (.int r) ∧ g = h')) {l0 : Option Nat} {l1 : Int32} {l2 : Int32} {l3 : Int32} {d4 d5 d6 : Option Value} {h : xv_H} (e : b171_31 k27 F l0 l1 l2 l3 h = some (r, h')) : xx sc 171 31 [some (va_rf l0), some (.int l1), some (.int l2), some (.int l3), d4, d5, d6] [] h (fun v g => v = some (.int r) ∧ g = h') := by
  unfold b171_31 at e
  refine xo_aload_nQ (w := l0) rfl rfl ?_
  refine d_nn e (fun v1 g e1 => ?_)
  subst g
  replace e := e1
  clear e1
  refine d_getr rfl e (fun v2 e => ?_)
  refine xo_iconstV (x := 3) rfl (by decide) ?_
  refine xo_iload_n rfl rfl ?_
  refine xo_imul rfl ?_
  refine xo_iload_n rfl rfl ?_
  refine xo_iadd rfl ?_
  refine d_nn e (fun v3 g e1 => ?_)
  subst g
  replace e := e1
  clear e1
  refine d_bald rfl e (fun v4 e => ?_)
  refine xo_iconstV (x := 1) rfl (by decide) ?_
  refine d_icmp_ne rfl rfl e (fun _ e => ?_) (fun _ e => ?_)
  · exact t171_49 hk27 e
  · exact t171_45 hk27 e
def b171_27 (F : Nat) : Nat → Option Nat → Int32 → Int32 → Int32 → xm Int32
  | 0, _, _, _, _ => fun _ => none
  | f + 1, l0, l1, l2, l3 => if l3 ≤ 0 then b171_57 F l0 l2 else b171_31 (b171_27 F f) F l0 l1 l2 l3
theorem t171_27 {sc : Nat × (Nat → Int32)} {F : Nat} {r : Int32} {h' : xv_H} : ∀ (f : Nat) (l0 : Option Nat) (l1 : Int32) (l2 : Int32) (l3 : Int32) (d4 d5 d6 : Option Value) (h : xv_H), b171_27 F f l0 l1 l2 l3 h = some (r, h') → xx sc 171 27 [some (va_rf l0), some (.int l1), some (.int l2), some (.int l3), d4, d5, d6] [] h (fun v g => v = some (.int r) ∧ g = h') := by
  intro f
  induction f with
  | zero => intro l0 l1 l2 l3 d4 d5 d6 h e; cases e
  | succ f ih =>
    intro l0 l1 l2 l3 d4 d5 d6 h e
    unfold b171_27 at e
    refine xo_iload_n rfl rfl ?_
    refine d_if_le rfl rfl e (fun _ e => ?_) (fun _ e => ?_)
    · exact t171_57 e
    · exact t171_31 (fun a0 a1 a2 a3 a4 a5 a6 h e => ih a0 a1 a2 a3 a4 a5 a6 h e) e
def b171_20 (F : Nat) (l0 : Option Nat) (l1 : Int32) : xm Int32 := mb (nn l0) fun v1 => mb (gi 904 v1) fun v2 => b171_27 F F (some v1) l1 (0 : Int32) v2
theorem t171_20 {sc : Nat × (Nat → Int32)} {F : Nat} {r : Int32} {h' : xv_H} {l0 : Option Nat} {l1 : Int32} {d2 d3 d4 d5 d6 : Option Value} {h : xv_H} (e : b171_20 F l0 l1 h = some (r, h')) : xx sc 171 20 [some (va_rf l0), some (.int l1), d2, d3, d4, d5, d6] [] h (fun v g => v = some (.int r) ∧ g = h') := by
  unfold b171_20 at e
  refine xo_iconstV (x := 0) rfl (by decide) ?_
  refine xo_istore_n rfl (Nat.le_of_ble_eq_true rfl) rfl ?_
  refine xo_aload_nQ (w := l0) rfl rfl ?_
  refine d_nn e (fun v1 g e1 => ?_)
  subst g
  replace e := e1
  clear e1
  refine d_geti rfl e (fun v2 e => ?_)
  refine xo_istore_n rfl (Nat.le_of_ble_eq_true rfl) rfl ?_
  exact t171_27 F _ _ _ _ _ _ _ _ e
def b171_18 (F : Nat) : xm Int32 := mr (-1 : Int32)
theorem t171_18 {sc : Nat × (Nat → Int32)} {F : Nat} {r : Int32} {h' : xv_H} {d0 d1 d2 d3 d4 d5 d6 : Option Value} {h : xv_H} (e : b171_18 F h = some (r, h')) : xx sc 171 18 [d0, d1, d2, d3, d4, d5, d6] [] h (fun v g => v = some (.int r) ∧ g = h') := by
  unfold b171_18 at e
  refine xo_iconstV (x := (-1)) rfl (by decide) ?_
  exact d_iret rfl e
def b171_9 (F : Nat) (l0 : Option Nat) (l1 : Int32) : xm Int32 := mb (nn l0) fun v1 => mb (gr 900 v1) fun v2 => mb (nn v2) fun v3 => mb (lb v3 l1) fun v4 => if v4 = 0 then b171_20 F (some v1) l1 else b171_18 F
theorem t171_9 {sc : Nat × (Nat → Int32)} {F : Nat} {r : Int32} {h' : xv_H} {l0 : Option Nat} {l1 : Int32} {d2 d3 d4 d5 d6 : Option Value} {h : xv_H} (e : b171_9 F l0 l1 h = some (r, h')) : xx sc 171 9 [some (va_rf l0), some (.int l1), d2, d3, d4, d5, d6] [] h (fun v g => v = some (.int r) ∧ g = h') := by
  unfold b171_9 at e
  refine xo_aload_nQ (w := l0) rfl rfl ?_
  refine d_nn e (fun v1 g e1 => ?_)
  subst g
  replace e := e1
  clear e1
  refine d_getr rfl e (fun v2 e => ?_)
  refine xo_iload_n rfl rfl ?_
  refine d_nn e (fun v3 g e1 => ?_)
  subst g
  replace e := e1
  clear e1
  refine d_bald rfl e (fun v4 e => ?_)
  refine d_if_eq rfl rfl e (fun _ e => ?_) (fun _ e => ?_)
  · exact t171_20 e
  · exact t171_18 e
def b171_0 (F : Nat) (l0 : Option Nat) (l1 : Int32) : xm Int32 := mb (m127 F l1 (0 : Int32) (2 : Int32)) fun v1 => if v1 = 0 then b171_18 F else b171_9 F l0 l1
theorem t171_0 {sc : Nat × (Nat → Int32)} {F : Nat} {r : Int32} {h' : xv_H} {l0 : Option Nat} {l1 : Int32} {d2 d3 d4 d5 d6 : Option Value} {h : xv_H} (e : b171_0 F l0 l1 h = some (r, h')) : xx sc 171 0 [some (va_rf l0), some (.int l1), d2, d3, d4, d5, d6] [] h (fun v g => v = some (.int r) ∧ g = h') := by
  unfold b171_0 at e
  refine xo_iload_n rfl rfl ?_
  refine xo_iconstV (x := 0) rfl (by decide) ?_
  refine xo_iconstV (x := 2) rfl (by decide) ?_
  refine d_static_i (av := [.int l1, .int (0 : Int32), .int (2 : Int32)]) (rest := []) rfl ⟨by decide, by decide, by decide⟩ rfl rfl (by simp [xv_fit, va_rf_cat, cat_int, cat_long, cat_ref, cat_null, show xt_mx 127 = 3 from rfl, show xt_lg 127 = [] from rfl]) (by simp [xv_room, va_rf_cat, cat_int, cat_long, cat_ref, cat_null]) (fun x0 h1 e1 => t127 e1) e (fun v1 h e => ?_)
  refine d_if_eq rfl rfl e (fun _ e => ?_) (fun _ e => ?_)
  · exact t171_18 e
  · exact t171_9 e
def m171 (F : Nat) (this : Nat) (p0 : Int32) : xm Int32 := b171_0 F (some this) p0
theorem t171 {sc : Nat × (Nat → Int32)} {F : Nat} {this : Nat} {p0 : Int32} {h : xv_H} {r : Int32} {h' : xv_H} (e : m171 F this p0 h = some (r, h')) : xr sc 171 [.ref this, .int p0] h (fun v g => v = some (.int r) ∧ g = h') := by
  have e0 : xv_ent (xt_mx 171) [.ref this, .int p0] = [some (va_rf (some this)), some (.int p0), none, none, none, none, none] := by simp [xv_ent, xv_sl, va_rf_cat, cat_int, cat_long, cat_ref, cat_null, va_rf_some, show xt_mx 171 = 7 from rfl]
  unfold xr
  rw [e0]
  exact t171_0 e
-- CellTreeModel.idle(I)Z
def b173_61 (F : Nat) (s0 : Int32) : xm Int32 := mb (bz s0) fun _ => mr s0
theorem t173_61 {sc : Nat × (Nat → Int32)} {F : Nat} {r : Int32} {h' : xv_H} {s0 : Int32} {d0 d1 : Option Value} {h : xv_H} (e : b173_61 F s0 h = some (r, h')) : xx sc 173 61 [d0, d1] [.int s0] h (fun v g => v = some (.int r) ∧ g = h') := by
  unfold b173_61 at e
  exact d_zret rfl e
def b173_60 (F : Nat) : xm Int32 := b173_61 F (0 : Int32)
theorem t173_60 {sc : Nat × (Nat → Int32)} {F : Nat} {r : Int32} {h' : xv_H} {d0 d1 : Option Value} {h : xv_H} (e : b173_60 F h = some (r, h')) : xx sc 173 60 [d0, d1] [] h (fun v g => v = some (.int r) ∧ g = h') := by
  unfold b173_60 at e
  refine xo_iconstV (x := 0) rfl (by decide) ?_
  exact t173_61 e
def b173_56 (F : Nat) : xm Int32 := b173_61 F (1 : Int32)
theorem t173_56 {sc : Nat × (Nat → Int32)} {F : Nat} {r : Int32} {h' : xv_H} {d0 d1 : Option Value} {h : xv_H} (e : b173_56 F h = some (r, h')) : xx sc 173 56 [d0, d1] [] h (fun v g => v = some (.int r) ∧ g = h') := by
  unfold b173_56 at e
  refine xo_iconstV (x := 1) rfl (by decide) ?_
  refine xo_goto rfl rfl ?_
  exact t173_61 e
def b173_51 (F : Nat) (s0 : Int32) (s1 : Option Nat) : xm Int32 := mb (nn s1) fun v1 => mb (li v1 s0) fun v2 => if v2 = (1 : Int32) then b173_60 F else b173_56 F
theorem t173_51 {sc : Nat × (Nat → Int32)} {F : Nat} {r : Int32} {h' : xv_H} {s0 : Int32} {s1 : Option Nat} {d0 d1 : Option Value} {h : xv_H} (e : b173_51 F s0 s1 h = some (r, h')) : xx sc 173 51 [d0, d1] [.int s0, va_rf s1] h (fun v g => v = some (.int r) ∧ g = h') := by
  unfold b173_51 at e
  refine d_nn e (fun v1 g e1 => ?_)
  subst g
  replace e := e1
  clear e1
  refine d_iald rfl e (fun v2 e => ?_)
  refine xo_iconstV (x := 1) rfl (by decide) ?_
  refine d_icmp_eq rfl rfl e (fun _ e => ?_) (fun _ e => ?_)
  · exact t173_60 e
  · exact t173_56 e
def b173_50 (F : Nat) (s0 : Option Nat) (l1 : Int32) : xm Int32 := b173_51 F l1 s0
theorem t173_50 {sc : Nat × (Nat → Int32)} {F : Nat} {r : Int32} {h' : xv_H} {s0 : Option Nat} {l1 : Int32} {d0 : Option Value} {h : xv_H} (e : b173_50 F s0 l1 h = some (r, h')) : xx sc 173 50 [d0, some (.int l1)] [va_rf s0] h (fun v g => v = some (.int r) ∧ g = h') := by
  unfold b173_50 at e
  refine xo_iload_n rfl rfl ?_
  exact t173_51 e
def b173_46 (F : Nat) (s0 : Option Nat) : xm Int32 := b173_51 F (0 : Int32) s0
theorem t173_46 {sc : Nat × (Nat → Int32)} {F : Nat} {r : Int32} {h' : xv_H} {s0 : Option Nat} {d0 d1 : Option Value} {h : xv_H} (e : b173_46 F s0 h = some (r, h')) : xx sc 173 46 [d0, d1] [va_rf s0] h (fun v g => v = some (.int r) ∧ g = h') := by
  unfold b173_46 at e
  refine xo_iconstV (x := 0) rfl (by decide) ?_
  refine xo_goto rfl rfl ?_
  exact t173_51 e
def b173_41 (F : Nat) (s0 : Option Nat) (l1 : Int32) : xm Int32 := if l1 ≤ (1 : Int32) then b173_50 F s0 l1 else b173_46 F s0
theorem t173_41 {sc : Nat × (Nat → Int32)} {F : Nat} {r : Int32} {h' : xv_H} {s0 : Option Nat} {l1 : Int32} {d0 : Option Value} {h : xv_H} (e : b173_41 F s0 l1 h = some (r, h')) : xx sc 173 41 [d0, some (.int l1)] [va_rf s0] h (fun v g => v = some (.int r) ∧ g = h') := by
  unfold b173_41 at e
  refine xo_iload_n rfl rfl ?_
  refine xo_iconstV (x := 1) rfl (by decide) ?_
  refine d_icmp_le rfl rfl e (fun _ e => ?_) (fun _ e => ?_)
  · exact t173_50 e
  · exact t173_46 e
def b173_33 (F : Nat) (l0 : Option Nat) (l1 : Int32) : xm Int32 := mb (nn l0) fun v1 => mb (gr 926 v1) fun v2 => if l1 < 0 then b173_46 F v2 else b173_41 F v2 l1
theorem t173_33 {sc : Nat × (Nat → Int32)} {F : Nat} {r : Int32} {h' : xv_H} {l0 : Option Nat} {l1 : Int32} {h : xv_H} (e : b173_33 F l0 l1 h = some (r, h')) : xx sc 173 33 [some (va_rf l0), some (.int l1)] [] h (fun v g => v = some (.int r) ∧ g = h') := by
  unfold b173_33 at e
  refine xo_aload_nQ (w := l0) rfl rfl ?_
  refine d_nn e (fun v1 g e1 => ?_)
  subst g
  replace e := e1
  clear e1
  refine d_getr rfl e (fun v2 e => ?_)
  refine xo_iload_n rfl rfl ?_
  refine d_if_lt rfl rfl e (fun _ e => ?_) (fun _ e => ?_)
  · exact t173_46 e
  · exact t173_41 e
def b173_29 (F : Nat) (s0 : Int32) (s1 : Option Nat) (l0 : Option Nat) (l1 : Int32) : xm Int32 := mb (nn s1) fun v1 => mb (lb v1 s0) fun v2 => if ¬ v2 = 0 then b173_60 F else b173_33 F l0 l1
theorem t173_29 {sc : Nat × (Nat → Int32)} {F : Nat} {r : Int32} {h' : xv_H} {s0 : Int32} {s1 : Option Nat} {l0 : Option Nat} {l1 : Int32} {h : xv_H} (e : b173_29 F s0 s1 l0 l1 h = some (r, h')) : xx sc 173 29 [some (va_rf l0), some (.int l1)] [.int s0, va_rf s1] h (fun v g => v = some (.int r) ∧ g = h') := by
  unfold b173_29 at e
  refine d_nn e (fun v1 g e1 => ?_)
  subst g
  replace e := e1
  clear e1
  refine d_bald rfl e (fun v2 e => ?_)
  refine d_if_ne rfl rfl e (fun _ e => ?_) (fun _ e => ?_)
  · exact t173_60 e
  · exact t173_33 e
def b173_26 (F : Nat) (s0 : Option Nat) (l0 : Option Nat) (l1 : Int32) : xm Int32 := b173_29 F ((3 : Int32) + l1) s0 l0 l1
theorem t173_26 {sc : Nat × (Nat → Int32)} {F : Nat} {r : Int32} {h' : xv_H} {s0 : Option Nat} {l0 : Option Nat} {l1 : Int32} {h : xv_H} (e : b173_26 F s0 l0 l1 h = some (r, h')) : xx sc 173 26 [some (va_rf l0), some (.int l1)] [va_rf s0] h (fun v g => v = some (.int r) ∧ g = h') := by
  unfold b173_26 at e
  refine xo_iconstV (x := 3) rfl (by decide) ?_
  refine xo_iload_n rfl rfl ?_
  refine xo_iadd rfl ?_
  exact t173_29 e
def b173_22 (F : Nat) (s0 : Option Nat) (l0 : Option Nat) (l1 : Int32) : xm Int32 := b173_29 F (3 : Int32) s0 l0 l1
theorem t173_22 {sc : Nat × (Nat → Int32)} {F : Nat} {r : Int32} {h' : xv_H} {s0 : Option Nat} {l0 : Option Nat} {l1 : Int32} {h : xv_H} (e : b173_22 F s0 l0 l1 h = some (r, h')) : xx sc 173 22 [some (va_rf l0), some (.int l1)] [va_rf s0] h (fun v g => v = some (.int r) ∧ g = h') := by
  unfold b173_22 at e
  refine xo_iconstV (x := 3) rfl (by decide) ?_
  refine xo_goto rfl rfl ?_
  exact t173_29 e
def b173_17 (F : Nat) (s0 : Option Nat) (l0 : Option Nat) (l1 : Int32) : xm Int32 := if l1 ≤ (1 : Int32) then b173_26 F s0 l0 l1 else b173_22 F s0 l0 l1
theorem t173_17 {sc : Nat × (Nat → Int32)} {F : Nat} {r : Int32} {h' : xv_H} {s0 : Option Nat} {l0 : Option Nat} {l1 : Int32} {h : xv_H} (e : b173_17 F s0 l0 l1 h = some (r, h')) : xx sc 173 17 [some (va_rf l0), some (.int l1)] [va_rf s0] h (fun v g => v = some (.int r) ∧ g = h') := by
  unfold b173_17 at e
  refine xo_iload_n rfl rfl ?_
  refine xo_iconstV (x := 1) rfl (by decide) ?_
  refine d_icmp_le rfl rfl e (fun _ e => ?_) (fun _ e => ?_)
  · exact t173_26 e
  · exact t173_22 e
def b173_9 (F : Nat) (l0 : Option Nat) (l1 : Int32) : xm Int32 := mb (nn l0) fun v1 => mb (gr 900 v1) fun v2 => if l1 < 0 then b173_22 F v2 (some v1) l1 else b173_17 F v2 (some v1) l1
theorem t173_9 {sc : Nat × (Nat → Int32)} {F : Nat} {r : Int32} {h' : xv_H} {l0 : Option Nat} {l1 : Int32} {h : xv_H} (e : b173_9 F l0 l1 h = some (r, h')) : xx sc 173 9 [some (va_rf l0), some (.int l1)] [] h (fun v g => v = some (.int r) ∧ g = h') := by
  unfold b173_9 at e
  refine xo_aload_nQ (w := l0) rfl rfl ?_
  refine d_nn e (fun v1 g e1 => ?_)
  subst g
  replace e := e1
  clear e1
  refine d_getr rfl e (fun v2 e => ?_)
  refine xo_iload_n rfl rfl ?_
  refine d_if_lt rfl rfl e (fun _ e => ?_) (fun _ e => ?_)
  · exact t173_22 e
  · exact t173_17 e
def b173_0 (F : Nat) (l0 : Option Nat) (l1 : Int32) : xm Int32 := mb (m127 F l1 (0 : Int32) (1 : Int32)) fun v1 => if v1 = 0 then b173_60 F else b173_9 F l0 l1
theorem t173_0 {sc : Nat × (Nat → Int32)} {F : Nat} {r : Int32} {h' : xv_H} {l0 : Option Nat} {l1 : Int32} {h : xv_H} (e : b173_0 F l0 l1 h = some (r, h')) : xx sc 173 0 [some (va_rf l0), some (.int l1)] [] h (fun v g => v = some (.int r) ∧ g = h') := by
  unfold b173_0 at e
  refine xo_iload_n rfl rfl ?_
  refine xo_iconstV (x := 0) rfl (by decide) ?_
  refine xo_iconstV (x := 1) rfl (by decide) ?_
  refine d_static_i (av := [.int l1, .int (0 : Int32), .int (1 : Int32)]) (rest := []) rfl ⟨by decide, by decide, by decide⟩ rfl rfl (by simp [xv_fit, va_rf_cat, cat_int, cat_long, cat_ref, cat_null, show xt_mx 127 = 3 from rfl, show xt_lg 127 = [] from rfl]) (by simp [xv_room, va_rf_cat, cat_int, cat_long, cat_ref, cat_null]) (fun x0 h1 e1 => t127 e1) e (fun v1 h e => ?_)
  refine d_if_eq rfl rfl e (fun _ e => ?_) (fun _ e => ?_)
  · exact t173_60 e
  · exact t173_9 e
def m173 (F : Nat) (this : Nat) (p0 : Int32) : xm Int32 := b173_0 F (some this) p0
theorem t173 {sc : Nat × (Nat → Int32)} {F : Nat} {this : Nat} {p0 : Int32} {h : xv_H} {r : Int32} {h' : xv_H} (e : m173 F this p0 h = some (r, h')) : xr sc 173 [.ref this, .int p0] h (fun v g => v = some (.int r) ∧ g = h') := by
  have e0 : xv_ent (xt_mx 173) [.ref this, .int p0] = [some (va_rf (some this)), some (.int p0)] := by simp [xv_ent, xv_sl, va_rf_cat, cat_int, cat_long, cat_ref, cat_null, va_rf_some, show xt_mx 173 = 2 from rfl]
  unfold xr
  rw [e0]
  exact t173_0 e
