-- CellTree$Client.draftCheck()V
def b22_53 (F : Nat) : xm Unit := mr ()
theorem t22_53 {sc : Nat × (Nat → Int32)} {F : Nat} {r : Unit} {h' : xv_H} {d0 d1 d2 : Option Value} {h : xv_H} (e : b22_53 F h = some (r, h')) : xx sc 22 53 [d0, d1, d2] [] h (fun v g => v = none ∧ g = h') := by
  unfold b22_53 at e
  exact d_ret rfl e
def b22_21 (k10 : Option Nat → Option Nat → Int32 → xm Unit) (F : Nat) (l0 : Option Nat) (l1 : Option Nat) (l2 : Int32) : xm Unit := mb (nn l0) fun v1 => mb (gr 102 v1) fun v2 => mb (nn v2) fun v3 => mb (gr 200 v3) fun v4 => mb (nn v4) fun v5 => mb (li v5 l2) fun v6 => mb (gr 102 v1) fun v7 => mb (nn v7) fun v8 => mb (gr 201 v8) fun v9 => mb (nn v9) fun v10 => mb (li v10 l2) fun v11 => mb (nn l1) fun v12 => mb (vc 4 v12) fun _ => mb (m25 F v12 (some (xv_SB + 8)) v6 v11 none) fun _ => k10 (some v1) (some v12) (l2 + (1 : Int32))
theorem t22_21 {sc : Nat × (Nat → Int32)} {F : Nat} {r : Unit} {h' : xv_H} {k10 : Option Nat → Option Nat → Int32 → xm Unit} (hk10 : ∀ (l0 : Option Nat) (l1 : Option Nat) (l2 : Int32) (h : xv_H), k10 l0 l1 l2 h = some (r, h') → xx sc 22 10 [some (va_rf l0), some (va_rf l1), some (.int l2)] [] h (fun v g => v = none ∧ g = h')) {l0 : Option Nat} {l1 : Option Nat} {l2 : Int32} {h : xv_H} (e : b22_21 k10 F l0 l1 l2 h = some (r, h')) : xx sc 22 21 [some (va_rf l0), some (va_rf l1), some (.int l2)] [] h (fun v g => v = none ∧ g = h') := by
  unfold b22_21 at e
  refine xo_aload_nQ (w := l1) rfl rfl ?_
  refine xo_getsV rfl ?_
  refine xo_aload_nQ (w := l0) rfl rfl ?_
  refine d_nn e (fun v1 g e1 => ?_)
  subst g
  replace e := e1
  clear e1
  refine d_getr rfl e (fun v2 e => ?_)
  refine d_nn e (fun v3 g e1 => ?_)
  subst g
  replace e := e1
  clear e1
  refine d_getr rfl e (fun v4 e => ?_)
  refine xo_iload_n rfl rfl ?_
  refine d_nn e (fun v5 g e1 => ?_)
  subst g
  replace e := e1
  clear e1
  refine d_iald rfl e (fun v6 e => ?_)
  refine xo_aload_nQ (w := (some v1)) rfl rfl ?_
  refine d_getr rfl e (fun v7 e => ?_)
  refine d_nn e (fun v8 g e1 => ?_)
  subst g
  replace e := e1
  clear e1
  refine d_getr rfl e (fun v9 e => ?_)
  refine xo_iload_n rfl rfl ?_
  refine d_nn e (fun v10 g e1 => ?_)
  subst g
  replace e := e1
  clear e1
  refine d_iald rfl e (fun v11 e => ?_)
  refine xo_nullV rfl ?_
  refine d_nn e (fun v12 g e1 => ?_)
  subst g
  replace e := e1
  clear e1
  refine d_virtual_v (av := [va_rf (some (xv_SB + 8)), .int v6, .int v11, va_rf none]) (rest := []) rfl ⟨by decide, by decide⟩ rfl rfl (by simp [xv_fit, va_rf_cat, cat_int, cat_long, cat_ref, cat_null, show xt_mx 25 = 5 from rfl, show xt_lg 25 = [] from rfl]) (by simp [xv_room, va_rf_cat, cat_int, cat_long, cat_ref, cat_null]) (fun x0 h1 e1 => t25 e1) e (fun _ h e => ?_)
  refine xo_iincV (z := 1) rfl (by decide) rfl (Nat.le_of_ble_eq_true rfl) rfl ?_
  refine xo_goto rfl rfl ?_
  exact hk10 _ _ _ _ e
def b22_10 (F : Nat) : Nat → Option Nat → Option Nat → Int32 → xm Unit
  | 0, _, _, _ => fun _ => none
  | f + 1, l0, l1, l2 => mb (nn l0) fun v1 => mb (gr 102 v1) fun v2 => mb (nn v2) fun v3 => mb (gi 202 v3) fun v4 => if v4 ≤ l2 then b22_53 F else b22_21 (b22_10 F f) F (some v1) l1 l2
theorem t22_10 {sc : Nat × (Nat → Int32)} {F : Nat} {r : Unit} {h' : xv_H} : ∀ (f : Nat) (l0 : Option Nat) (l1 : Option Nat) (l2 : Int32) (h : xv_H), b22_10 F f l0 l1 l2 h = some (r, h') → xx sc 22 10 [some (va_rf l0), some (va_rf l1), some (.int l2)] [] h (fun v g => v = none ∧ g = h') := by
  intro f
  induction f with
  | zero => intro l0 l1 l2 h e; cases e
  | succ f ih =>
    intro l0 l1 l2 h e
    unfold b22_10 at e
    refine xo_iload_n rfl rfl ?_
    refine xo_aload_nQ (w := l0) rfl rfl ?_
    refine d_nn e (fun v1 g e1 => ?_)
    subst g
    replace e := e1
    clear e1
    refine d_getr rfl e (fun v2 e => ?_)
    refine d_nn e (fun v3 g e1 => ?_)
    subst g
    replace e := e1
    clear e1
    refine d_geti rfl e (fun v4 e => ?_)
    refine d_icmp_ge rfl rfl e (fun _ e => ?_) (fun _ e => ?_)
    · exact t22_53 e
    · exact t22_21 (fun a0 a1 a2 h e => ih a0 a1 a2 h e) e
def b22_0 (F : Nat) (l0 : Option Nat) : xm Unit := mb (nn l0) fun v1 => mb (vc 1 v1) fun _ => mb (m23 F v1 (some (xv_SB + 13))) fun v2 => b22_10 F F (some v1) v2 (0 : Int32)
theorem t22_0 {sc : Nat × (Nat → Int32)} {F : Nat} {r : Unit} {h' : xv_H} {l0 : Option Nat} {d1 d2 : Option Value} {h : xv_H} (e : b22_0 F l0 h = some (r, h')) : xx sc 22 0 [some (va_rf l0), d1, d2] [] h (fun v g => v = none ∧ g = h') := by
  unfold b22_0 at e
  refine xo_aload_nQ (w := l0) rfl rfl ?_
  refine xo_getsV rfl ?_
  refine d_nn e (fun v1 g e1 => ?_)
  subst g
  replace e := e1
  clear e1
  refine d_virtual_a (av := [va_rf (some (xv_SB + 13))]) (rest := []) rfl ⟨by decide, by decide⟩ rfl rfl (by simp [xv_fit, va_rf_cat, cat_int, cat_long, cat_ref, cat_null, show xt_mx 23 = 2 from rfl, show xt_lg 23 = [] from rfl]) (by simp [xv_room, va_rf_cat, cat_int, cat_long, cat_ref, cat_null]) (fun x0 h1 e1 => t23 e1) e (fun v2 h e => ?_)
  refine xo_astore_nQ (w := v2) rfl (Nat.le_of_ble_eq_true rfl) rfl ?_
  refine xo_iconstV (x := 0) rfl (by decide) ?_
  refine xo_istore_n rfl (Nat.le_of_ble_eq_true rfl) rfl ?_
  exact t22_10 F _ _ _ _ e
def m22 (F : Nat) (this : Nat) : xm Unit := b22_0 F (some this)
theorem t22 {sc : Nat × (Nat → Int32)} {F : Nat} {this : Nat} {h : xv_H} {r : Unit} {h' : xv_H} (e : m22 F this h = some (r, h')) : xr sc 22 [.ref this] h (fun v g => v = none ∧ g = h') := by
  have e0 : xv_ent (xt_mx 22) [.ref this] = [some (va_rf (some this)), none, none] := by simp [xv_ent, xv_sl, va_rf_cat, cat_int, cat_long, cat_ref, cat_null, va_rf_some, show xt_mx 22 = 3 from rfl]
  unfold xr
  rw [e0]
  exact t22_0 e
-- CellTree$Client.collectLeaf()V
def b17_94 (F : Nat) : xm Unit := mr ()
theorem t17_94 {sc : Nat × (Nat → Int32)} {F : Nat} {r : Unit} {h' : xv_H} {d0 : Option Value} {h : xv_H} (e : b17_94 F h = some (r, h')) : xx sc 17 94 [d0] [] h (fun v g => v = none ∧ g = h') := by
  unfold b17_94 at e
  exact d_ret rfl e
def b17_90 (F : Nat) (l0 : Option Nat) : xm Unit := mb (nn l0) fun v1 => mb (vc 1 v1) fun _ => mb (m22 F v1) fun _ => b17_94 F
theorem t17_90 {sc : Nat × (Nat → Int32)} {F : Nat} {r : Unit} {h' : xv_H} {l0 : Option Nat} {h : xv_H} (e : b17_90 F l0 h = some (r, h')) : xx sc 17 90 [some (va_rf l0)] [] h (fun v g => v = none ∧ g = h') := by
  unfold b17_90 at e
  refine xo_aload_nQ (w := l0) rfl rfl ?_
  refine d_nn e (fun v1 g e1 => ?_)
  subst g
  replace e := e1
  clear e1
  refine d_virtual_v (av := []) (rest := []) rfl ⟨by decide, by decide⟩ rfl rfl (by simp [xv_fit, va_rf_cat, cat_int, cat_long, cat_ref, cat_null, show xt_mx 22 = 3 from rfl, show xt_lg 22 = [] from rfl]) (by simp [xv_room, va_rf_cat, cat_int, cat_long, cat_ref, cat_null]) (fun x0 h1 e1 => t22 e1) e (fun _ h e => ?_)
  exact t17_94 e
def b17_80 (F : Nat) (l0 : Option Nat) : xm Unit := mb (nn l0) fun v1 => mb (gr 102 v1) fun v2 => mb (nn v2) fun v3 => mb (vc 2 v3) fun _ => mb (m21 F v3) fun _ => b17_94 F
theorem t17_80 {sc : Nat × (Nat → Int32)} {F : Nat} {r : Unit} {h' : xv_H} {l0 : Option Nat} {h : xv_H} (e : b17_80 F l0 h = some (r, h')) : xx sc 17 80 [some (va_rf l0)] [] h (fun v g => v = none ∧ g = h') := by
  unfold b17_80 at e
  refine xo_aload_nQ (w := l0) rfl rfl ?_
  refine d_nn e (fun v1 g e1 => ?_)
  subst g
  replace e := e1
  clear e1
  refine d_getr rfl e (fun v2 e => ?_)
  refine d_nn e (fun v3 g e1 => ?_)
  subst g
  replace e := e1
  clear e1
  refine d_virtual_v (av := []) (rest := []) rfl ⟨by decide, by decide⟩ rfl rfl (by simp [xv_fit, va_rf_cat, cat_int, cat_long, cat_ref, cat_null, show xt_mx 21 = 1 from rfl, show xt_lg 21 = [] from rfl]) (by simp [xv_room, va_rf_cat, cat_int, cat_long, cat_ref, cat_null]) (fun x0 h1 e1 => t21 e1) e (fun _ h e => ?_)
  refine xo_goto rfl rfl ?_
  exact t17_94 e
def b17_69 (F : Nat) (l0 : Option Nat) : xm Unit := mb (nn l0) fun v1 => mb (gr 102 v1) fun v2 => mb (nn v2) fun v3 => mb (gi 202 v3) fun v4 => if ¬ v4 = (1 : Int32) then b17_90 F (some v1) else b17_80 F (some v1)
theorem t17_69 {sc : Nat × (Nat → Int32)} {F : Nat} {r : Unit} {h' : xv_H} {l0 : Option Nat} {h : xv_H} (e : b17_69 F l0 h = some (r, h')) : xx sc 17 69 [some (va_rf l0)] [] h (fun v g => v = none ∧ g = h') := by
  unfold b17_69 at e
  refine xo_aload_nQ (w := l0) rfl rfl ?_
  refine d_nn e (fun v1 g e1 => ?_)
  subst g
  replace e := e1
  clear e1
  refine d_getr rfl e (fun v2 e => ?_)
  refine d_nn e (fun v3 g e1 => ?_)
  subst g
  replace e := e1
  clear e1
  refine d_geti rfl e (fun v4 e => ?_)
  refine xo_iconstV (x := 1) rfl (by decide) ?_
  refine d_icmp_ne rfl rfl e (fun _ e => ?_) (fun _ e => ?_)
  · exact t17_90 e
  · exact t17_80 e
def b17_52 (F : Nat) (l0 : Option Nat) : xm Unit := mb (nn l0) fun v1 => mb (gr 106 v1) fun v2 => mb (nn v2) fun v3 => mb (gr 701 v3) fun v4 => mb (nn v4) fun v5 => mb (gi 602 v5) fun v6 => mb (vc 1 v1) fun _ => mb (m16 F v1 v6) fun _ => b17_94 F
theorem t17_52 {sc : Nat × (Nat → Int32)} {F : Nat} {r : Unit} {h' : xv_H} {l0 : Option Nat} {h : xv_H} (e : b17_52 F l0 h = some (r, h')) : xx sc 17 52 [some (va_rf l0)] [] h (fun v g => v = none ∧ g = h') := by
  unfold b17_52 at e
  refine xo_aload_nQ (w := l0) rfl rfl ?_
  refine xo_aload_nQ (w := l0) rfl rfl ?_
  refine d_nn e (fun v1 g e1 => ?_)
  subst g
  replace e := e1
  clear e1
  refine d_getr rfl e (fun v2 e => ?_)
  refine d_nn e (fun v3 g e1 => ?_)
  subst g
  replace e := e1
  clear e1
  refine d_getr rfl e (fun v4 e => ?_)
  refine d_nn e (fun v5 g e1 => ?_)
  subst g
  replace e := e1
  clear e1
  refine d_geti rfl e (fun v6 e => ?_)
  refine d_virtual_v (av := [.int v6]) (rest := []) rfl ⟨by decide, by decide⟩ rfl rfl (by simp [xv_fit, va_rf_cat, cat_int, cat_long, cat_ref, cat_null, show xt_mx 16 = 2 from rfl, show xt_lg 16 = [] from rfl]) (by simp [xv_room, va_rf_cat, cat_int, cat_long, cat_ref, cat_null]) (fun x0 h1 e1 => t16 e1) e (fun _ h e => ?_)
  refine xo_goto rfl rfl ?_
  exact t17_94 e
def b17_17 (F : Nat) (l0 : Option Nat) : xm Unit := mb (nn l0) fun v1 => mb (gr 102 v1) fun v2 => mb (vc 1 v1) fun _ => mb (m19 F v1) fun v3 => mb (gr 106 v1) fun v4 => mb (nn v2) fun v5 => mb (vc 2 v5) fun _ => mb (m20 F v5 v3 v4) fun _ => mb (gr 106 v1) fun v6 => mb (nn v6) fun v7 => mb (gr 701 v7) fun v8 => mb (nn v8) fun v9 => mb (gi 602 v9) fun v10 => mb (gr 102 v1) fun v11 => mb (nn v11) fun v12 => mb (gi 205 v12) fun v13 => if v13 < v10 then b17_69 F (some v1) else b17_52 F (some v1)
theorem t17_17 {sc : Nat × (Nat → Int32)} {F : Nat} {r : Unit} {h' : xv_H} {l0 : Option Nat} {h : xv_H} (e : b17_17 F l0 h = some (r, h')) : xx sc 17 17 [some (va_rf l0)] [] h (fun v g => v = none ∧ g = h') := by
  unfold b17_17 at e
  refine xo_aload_nQ (w := l0) rfl rfl ?_
  refine d_nn e (fun v1 g e1 => ?_)
  subst g
  replace e := e1
  clear e1
  refine d_getr rfl e (fun v2 e => ?_)
  refine xo_aload_nQ (w := (some v1)) rfl rfl ?_
  refine d_virtual_i (av := []) (rest := [va_rf v2]) rfl ⟨by decide, by decide⟩ rfl rfl (by simp [xv_fit, va_rf_cat, cat_int, cat_long, cat_ref, cat_null, show xt_mx 19 = 1 from rfl, show xt_lg 19 = [] from rfl]) (by simp [xv_room, va_rf_cat, cat_int, cat_long, cat_ref, cat_null]) (fun x0 h1 e1 => t19 e1) e (fun v3 h e => ?_)
  refine xo_aload_nQ (w := (some v1)) rfl rfl ?_
  refine d_getr rfl e (fun v4 e => ?_)
  refine d_nn e (fun v5 g e1 => ?_)
  subst g
  replace e := e1
  clear e1
  refine d_virtual_v (av := [.int v3, va_rf v4]) (rest := []) rfl ⟨by decide, by decide⟩ rfl rfl (by simp [xv_fit, va_rf_cat, cat_int, cat_long, cat_ref, cat_null, show xt_mx 20 = 5 from rfl, show xt_lg 20 = [] from rfl]) (by simp [xv_room, va_rf_cat, cat_int, cat_long, cat_ref, cat_null]) (fun x0 h1 e1 => t20 e1) e (fun _ h e => ?_)
  refine xo_aload_nQ (w := (some v1)) rfl rfl ?_
  refine d_getr rfl e (fun v6 e => ?_)
  refine d_nn e (fun v7 g e1 => ?_)
  subst g
  replace e := e1
  clear e1
  refine d_getr rfl e (fun v8 e => ?_)
  refine d_nn e (fun v9 g e1 => ?_)
  subst g
  replace e := e1
  clear e1
  refine d_geti rfl e (fun v10 e => ?_)
  refine xo_aload_nQ (w := (some v1)) rfl rfl ?_
  refine d_getr rfl e (fun v11 e => ?_)
  refine d_nn e (fun v12 g e1 => ?_)
  subst g
  replace e := e1
  clear e1
  refine d_geti rfl e (fun v13 e => ?_)
  refine d_icmp_gt rfl rfl e (fun _ e => ?_) (fun _ e => ?_)
  · exact t17_69 e
  · exact t17_52 e
def b17_12 (F : Nat) (l0 : Option Nat) : xm Unit := mb (nn l0) fun v1 => mb (vc 1 v1) fun _ => mb (m18 F v1) fun _ => mr ()
theorem t17_12 {sc : Nat × (Nat → Int32)} {F : Nat} {r : Unit} {h' : xv_H} {l0 : Option Nat} {h : xv_H} (e : b17_12 F l0 h = some (r, h')) : xx sc 17 12 [some (va_rf l0)] [] h (fun v g => v = none ∧ g = h') := by
  unfold b17_12 at e
  refine xo_aload_nQ (w := l0) rfl rfl ?_
  refine d_nn e (fun v1 g e1 => ?_)
  subst g
  replace e := e1
  clear e1
  refine d_virtual_v (av := []) (rest := []) rfl ⟨by decide, by decide⟩ rfl rfl (by simp [xv_fit, va_rf_cat, cat_int, cat_long, cat_ref, cat_null, show xt_mx 18 = 1 from rfl, show xt_lg 18 = [] from rfl]) (by simp [xv_room, va_rf_cat, cat_int, cat_long, cat_ref, cat_null]) (fun x0 h1 e1 => t18 e1) e (fun _ h e => ?_)
  exact d_ret rfl e
def b17_0 (F : Nat) (l0 : Option Nat) : xm Unit := mb (nn l0) fun v1 => mb (gr 102 v1) fun v2 => mb (nn v2) fun v3 => mb (gi 202 v3) fun v4 => if v4 < (6 : Int32) then b17_17 F (some v1) else b17_12 F (some v1)
theorem t17_0 {sc : Nat × (Nat → Int32)} {F : Nat} {r : Unit} {h' : xv_H} {l0 : Option Nat} {h : xv_H} (e : b17_0 F l0 h = some (r, h')) : xx sc 17 0 [some (va_rf l0)] [] h (fun v g => v = none ∧ g = h') := by
  unfold b17_0 at e
  refine xo_aload_nQ (w := l0) rfl rfl ?_
  refine d_nn e (fun v1 g e1 => ?_)
  subst g
  replace e := e1
  clear e1
  refine d_getr rfl e (fun v2 e => ?_)
  refine d_nn e (fun v3 g e1 => ?_)
  subst g
  replace e := e1
  clear e1
  refine d_geti rfl e (fun v4 e => ?_)
  refine xo_bipushV (x := 6) rfl (by decide) ?_
  refine d_icmp_lt rfl rfl e (fun _ e => ?_) (fun _ e => ?_)
  · exact t17_17 e
  · exact t17_12 e
def m17 (F : Nat) (this : Nat) : xm Unit := b17_0 F (some this)
theorem t17 {sc : Nat × (Nat → Int32)} {F : Nat} {this : Nat} {h : xv_H} {r : Unit} {h' : xv_H} (e : m17 F this h = some (r, h')) : xr sc 17 [.ref this] h (fun v g => v = none ∧ g = h') := by
  have e0 : xv_ent (xt_mx 17) [.ref this] = [some (va_rf (some this))] := by simp [xv_ent, xv_sl, va_rf_cat, cat_int, cat_long, cat_ref, cat_null, va_rf_some, show xt_mx 17 = 1 from rfl]
  unfold xr
  rw [e0]
  exact t17_0 e
-- CellTree$Content.indexOf(I)I
def b28_29 (F : Nat) : xm Int32 := mr (-1 : Int32)
theorem t28_29 {sc : Nat × (Nat → Int32)} {F : Nat} {r : Int32} {h' : xv_H} {d0 d1 d2 : Option Value} {h : xv_H} (e : b28_29 F h = some (r, h')) : xx sc 28 29 [d0, d1, d2] [] h (fun v g => v = some (.int r) ∧ g = h') := by
  unfold b28_29 at e
  refine xo_iconstV (x := (-1)) rfl (by decide) ?_
  exact d_iret rfl e
def b28_23 (k2 : Option Nat → Int32 → Int32 → xm Int32) (F : Nat) (l0 : Option Nat) (l1 : Int32) (l2 : Int32) : xm Int32 := k2 l0 l1 (l2 + (1 : Int32))
theorem t28_23 {sc : Nat × (Nat → Int32)} {F : Nat} {r : Int32} {h' : xv_H} {k2 : Option Nat → Int32 → Int32 → xm Int32} (hk2 : ∀ (l0 : Option Nat) (l1 : Int32) (l2 : Int32) (h : xv_H), k2 l0 l1 l2 h = some (r, h') → xx sc 28 2 [some (va_rf l0), some (.int l1), some (.int l2)] [] h (fun v g => v = some (.int r) ∧ g = h')) {l0 : Option Nat} {l1 : Int32} {l2 : Int32} {h : xv_H} (e : b28_23 k2 F l0 l1 l2 h = some (r, h')) : xx sc 28 23 [some (va_rf l0), some (.int l1), some (.int l2)] [] h (fun v g => v = some (.int r) ∧ g = h') := by
  unfold b28_23 at e
  refine xo_iincV (z := 1) rfl (by decide) rfl (Nat.le_of_ble_eq_true rfl) rfl ?_
  refine xo_goto rfl rfl ?_
  exact hk2 _ _ _ _ e
def b28_21 (k2 : Option Nat → Int32 → Int32 → xm Int32) (F : Nat) (l2 : Int32) : xm Int32 := mr l2
theorem t28_21 {sc : Nat × (Nat → Int32)} {F : Nat} {r : Int32} {h' : xv_H} {k2 : Option Nat → Int32 → Int32 → xm Int32} (hk2 : ∀ (l0 : Option Nat) (l1 : Int32) (l2 : Int32) (h : xv_H), k2 l0 l1 l2 h = some (r, h') → xx sc 28 2 [some (va_rf l0), some (.int l1), some (.int l2)] [] h (fun v g => v = some (.int r) ∧ g = h')) {l2 : Int32} {d0 d1 : Option Value} {h : xv_H} (e : b28_21 k2 F l2 h = some (r, h')) : xx sc 28 21 [d0, d1, some (.int l2)] [] h (fun v g => v = some (.int r) ∧ g = h') := by
  unfold b28_21 at e
  refine xo_iload_n rfl rfl ?_
  exact d_iret rfl e
def b28_11 (k2 : Option Nat → Int32 → Int32 → xm Int32) (F : Nat) (l0 : Option Nat) (l1 : Int32) (l2 : Int32) : xm Int32 := mb (nn l0) fun v1 => mb (gr 603 v1) fun v2 => mb (nn v2) fun v3 => mb (li v3 l2) fun v4 => if ¬ v4 = l1 then b28_23 k2 F (some v1) l1 l2 else b28_21 k2 F l2
theorem t28_11 {sc : Nat × (Nat → Int32)} {F : Nat} {r : Int32} {h' : xv_H} {k2 : Option Nat → Int32 → Int32 → xm Int32} (hk2 : ∀ (l0 : Option Nat) (l1 : Int32) (l2 : Int32) (h : xv_H), k2 l0 l1 l2 h = some (r, h') → xx sc 28 2 [some (va_rf l0), some (.int l1), some (.int l2)] [] h (fun v g => v = some (.int r) ∧ g = h')) {l0 : Option Nat} {l1 : Int32} {l2 : Int32} {h : xv_H} (e : b28_11 k2 F l0 l1 l2 h = some (r, h')) : xx sc 28 11 [some (va_rf l0), some (.int l1), some (.int l2)] [] h (fun v g => v = some (.int r) ∧ g = h') := by
  unfold b28_11 at e
  refine xo_aload_nQ (w := l0) rfl rfl ?_
  refine d_nn e (fun v1 g e1 => ?_)
  subst g
  replace e := e1
  clear e1
  refine d_getr rfl e (fun v2 e => ?_)
  refine xo_iload_n rfl rfl ?_
  refine d_nn e (fun v3 g e1 => ?_)
  subst g
  replace e := e1
  clear e1
  refine d_iald rfl e (fun v4 e => ?_)
  refine xo_iload_n rfl rfl ?_
  refine d_icmp_ne rfl rfl e (fun _ e => ?_) (fun _ e => ?_)
  · exact t28_23 hk2 e
  · exact t28_21 hk2 e
def b28_2 (F : Nat) : Nat → Option Nat → Int32 → Int32 → xm Int32
  | 0, _, _, _ => fun _ => none
  | f + 1, l0, l1, l2 => mb (nn l0) fun v1 => mb (gr 603 v1) fun v2 => mb (nn v2) fun v3 => mb (len 100 0 v3) fun v4 => if v4 ≤ l2 then b28_29 F else b28_11 (b28_2 F f) F (some v1) l1 l2
theorem t28_2 {sc : Nat × (Nat → Int32)} {F : Nat} {r : Int32} {h' : xv_H} : ∀ (f : Nat) (l0 : Option Nat) (l1 : Int32) (l2 : Int32) (h : xv_H), b28_2 F f l0 l1 l2 h = some (r, h') → xx sc 28 2 [some (va_rf l0), some (.int l1), some (.int l2)] [] h (fun v g => v = some (.int r) ∧ g = h') := by
  intro f
  induction f with
  | zero => intro l0 l1 l2 h e; cases e
  | succ f ih =>
    intro l0 l1 l2 h e
    unfold b28_2 at e
    refine xo_iload_n rfl rfl ?_
    refine xo_aload_nQ (w := l0) rfl rfl ?_
    refine d_nn e (fun v1 g e1 => ?_)
    subst g
    replace e := e1
    clear e1
    refine d_getr rfl e (fun v2 e => ?_)
    refine d_nn e (fun v3 g e1 => ?_)
    subst g
    replace e := e1
    clear e1
    refine d_len rfl e (fun v4 e => ?_)
    refine d_icmp_ge rfl rfl e (fun _ e => ?_) (fun _ e => ?_)
    · exact t28_29 e
    · exact t28_11 (fun a0 a1 a2 h e => ih a0 a1 a2 h e) e
def b28_0 (F : Nat) (l0 : Option Nat) (l1 : Int32) : xm Int32 := b28_2 F F l0 l1 (0 : Int32)
theorem t28_0 {sc : Nat × (Nat → Int32)} {F : Nat} {r : Int32} {h' : xv_H} {l0 : Option Nat} {l1 : Int32} {d2 : Option Value} {h : xv_H} (e : b28_0 F l0 l1 h = some (r, h')) : xx sc 28 0 [some (va_rf l0), some (.int l1), d2] [] h (fun v g => v = some (.int r) ∧ g = h') := by
  unfold b28_0 at e
  refine xo_iconstV (x := 0) rfl (by decide) ?_
  refine xo_istore_n rfl (Nat.le_of_ble_eq_true rfl) rfl ?_
  exact t28_2 F _ _ _ _ e
def m28 (F : Nat) (this : Nat) (p0 : Int32) : xm Int32 := b28_0 F (some this) p0
theorem t28 {sc : Nat × (Nat → Int32)} {F : Nat} {this : Nat} {p0 : Int32} {h : xv_H} {r : Int32} {h' : xv_H} (e : m28 F this p0 h = some (r, h')) : xr sc 28 [.ref this, .int p0] h (fun v g => v = some (.int r) ∧ g = h') := by
  have e0 : xv_ent (xt_mx 28) [.ref this, .int p0] = [some (va_rf (some this)), some (.int p0), none] := by simp [xv_ent, xv_sl, va_rf_cat, cat_int, cat_long, cat_ref, cat_null, va_rf_some, show xt_mx 28 = 3 from rfl]
  unfold xr
  rw [e0]
  exact t28_0 e
-- CellTree$Content.isFull()Z
def b29_14 (F : Nat) (s0 : Int32) : xm Int32 := mb (bz s0) fun _ => mr s0
theorem t29_14 {sc : Nat × (Nat → Int32)} {F : Nat} {r : Int32} {h' : xv_H} {s0 : Int32} {d0 : Option Value} {h : xv_H} (e : b29_14 F s0 h = some (r, h')) : xx sc 29 14 [d0] [.int s0] h (fun v g => v = some (.int r) ∧ g = h') := by
  unfold b29_14 at e
  exact d_zret rfl e
def b29_13 (F : Nat) : xm Int32 := b29_14 F (0 : Int32)
theorem t29_13 {sc : Nat × (Nat → Int32)} {F : Nat} {r : Int32} {h' : xv_H} {d0 : Option Value} {h : xv_H} (e : b29_13 F h = some (r, h')) : xx sc 29 13 [d0] [] h (fun v g => v = some (.int r) ∧ g = h') := by
  unfold b29_13 at e
  refine xo_iconstV (x := 0) rfl (by decide) ?_
  exact t29_14 e
def b29_9 (F : Nat) : xm Int32 := b29_14 F (1 : Int32)
theorem t29_9 {sc : Nat × (Nat → Int32)} {F : Nat} {r : Int32} {h' : xv_H} {d0 : Option Value} {h : xv_H} (e : b29_9 F h = some (r, h')) : xx sc 29 9 [d0] [] h (fun v g => v = some (.int r) ∧ g = h') := by
  unfold b29_9 at e
  refine xo_iconstV (x := 1) rfl (by decide) ?_
  refine xo_goto rfl rfl ?_
  exact t29_14 e
def b29_0 (F : Nat) (l0 : Option Nat) : xm Int32 := mb (nn l0) fun v1 => mb (gr 603 v1) fun v2 => mb (nn v2) fun v3 => mb (len 100 0 v3) fun v4 => if v4 < (3 : Int32) then b29_13 F else b29_9 F
theorem t29_0 {sc : Nat × (Nat → Int32)} {F : Nat} {r : Int32} {h' : xv_H} {l0 : Option Nat} {h : xv_H} (e : b29_0 F l0 h = some (r, h')) : xx sc 29 0 [some (va_rf l0)] [] h (fun v g => v = some (.int r) ∧ g = h') := by
  unfold b29_0 at e
  refine xo_aload_nQ (w := l0) rfl rfl ?_
  refine d_nn e (fun v1 g e1 => ?_)
  subst g
  replace e := e1
  clear e1
  refine d_getr rfl e (fun v2 e => ?_)
  refine d_nn e (fun v3 g e1 => ?_)
  subst g
  replace e := e1
  clear e1
  refine d_len rfl e (fun v4 e => ?_)
  refine xo_iconstV (x := 3) rfl (by decide) ?_
  refine d_icmp_lt rfl rfl e (fun _ e => ?_) (fun _ e => ?_)
  · exact t29_13 e
  · exact t29_9 e
def m29 (F : Nat) (this : Nat) : xm Int32 := b29_0 F (some this)
theorem t29 {sc : Nat × (Nat → Int32)} {F : Nat} {this : Nat} {h : xv_H} {r : Int32} {h' : xv_H} (e : m29 F this h = some (r, h')) : xr sc 29 [.ref this] h (fun v g => v = some (.int r) ∧ g = h') := by
  have e0 : xv_ent (xt_mx 29) [.ref this] = [some (va_rf (some this))] := by simp [xv_ent, xv_sl, va_rf_cat, cat_int, cat_long, cat_ref, cat_null, va_rf_some, show xt_mx 29 = 1 from rfl]
  unfold xr
  rw [e0]
  exact t29_0 e
-- CellTree$Content.countNotGreater(I)I
def b31_32 (F : Nat) (l2 : Int32) : xm Int32 := mr l2
theorem t31_32 {sc : Nat × (Nat → Int32)} {F : Nat} {r : Int32} {h' : xv_H} {l2 : Int32} {d0 d1 d3 : Option Value} {h : xv_H} (e : b31_32 F l2 h = some (r, h')) : xx sc 31 32 [d0, d1, some (.int l2), d3] [] h (fun v g => v = some (.int r) ∧ g = h') := by
  unfold b31_32 at e
  refine xo_iload_n rfl rfl ?_
  exact d_iret rfl e
def b31_26 (k4 : Option Nat → Int32 → Int32 → Int32 → xm Int32) (F : Nat) (l0 : Option Nat) (l1 : Int32) (l2 : Int32) (l3 : Int32) : xm Int32 := k4 l0 l1 l2 (l3 + (1 : Int32))
theorem t31_26 {sc : Nat × (Nat → Int32)} {F : Nat} {r : Int32} {h' : xv_H} {k4 : Option Nat → Int32 → Int32 → Int32 → xm Int32} (hk4 : ∀ (l0 : Option Nat) (l1 : Int32) (l2 : Int32) (l3 : Int32) (h : xv_H), k4 l0 l1 l2 l3 h = some (r, h') → xx sc 31 4 [some (va_rf l0), some (.int l1), some (.int l2), some (.int l3)] [] h (fun v g => v = some (.int r) ∧ g = h')) {l0 : Option Nat} {l1 : Int32} {l2 : Int32} {l3 : Int32} {h : xv_H} (e : b31_26 k4 F l0 l1 l2 l3 h = some (r, h')) : xx sc 31 26 [some (va_rf l0), some (.int l1), some (.int l2), some (.int l3)] [] h (fun v g => v = some (.int r) ∧ g = h') := by
  unfold b31_26 at e
  refine xo_iincV (z := 1) rfl (by decide) rfl (Nat.le_of_ble_eq_true rfl) rfl ?_
  refine xo_goto rfl rfl ?_
  exact hk4 _ _ _ _ _ e
def b31_23 (k4 : Option Nat → Int32 → Int32 → Int32 → xm Int32) (F : Nat) (l0 : Option Nat) (l1 : Int32) (l2 : Int32) (l3 : Int32) : xm Int32 := b31_26 k4 F l0 l1 (l2 + (1 : Int32)) l3
theorem t31_23 {sc : Nat × (Nat → Int32)} {F : Nat} {r : Int32} {h' : xv_H} {k4 : Option Nat → Int32 → Int32 → Int32 → xm Int32} (hk4 : ∀ (l0 : Option Nat) (l1 : Int32) (l2 : Int32) (l3 : Int32) (h : xv_H), k4 l0 l1 l2 l3 h = some (r, h') → xx sc 31 4 [some (va_rf l0), some (.int l1), some (.int l2), some (.int l3)] [] h (fun v g => v = some (.int r) ∧ g = h')) {l0 : Option Nat} {l1 : Int32} {l2 : Int32} {l3 : Int32} {h : xv_H} (e : b31_23 k4 F l0 l1 l2 l3 h = some (r, h')) : xx sc 31 23 [some (va_rf l0), some (.int l1), some (.int l2), some (.int l3)] [] h (fun v g => v = some (.int r) ∧ g = h') := by
  unfold b31_23 at e
  refine xo_iincV (z := 1) rfl (by decide) rfl (Nat.le_of_ble_eq_true rfl) rfl ?_
  exact t31_26 hk4 e
def b31_13 (k4 : Option Nat → Int32 → Int32 → Int32 → xm Int32) (F : Nat) (l0 : Option Nat) (l1 : Int32) (l2 : Int32) (l3 : Int32) : xm Int32 := mb (nn l0) fun v1 => mb (gr 603 v1) fun v2 => mb (nn v2) fun v3 => mb (li v3 l3) fun v4 => if l1 < v4 then b31_26 k4 F (some v1) l1 l2 l3 else b31_23 k4 F (some v1) l1 l2 l3
theorem t31_13 {sc : Nat × (Nat → Int32)} {F : Nat} {r : Int32} {h' : xv_H} {k4 : Option Nat → Int32 → Int32 → Int32 → xm Int32} (hk4 : ∀ (l0 : Option Nat) (l1 : Int32) (l2 : Int32) (l3 : Int32) (h : xv_H), k4 l0 l1 l2 l3 h = some (r, h') → xx sc 31 4 [some (va_rf l0), some (.int l1), some (.int l2), some (.int l3)] [] h (fun v g => v = some (.int r) ∧ g = h')) {l0 : Option Nat} {l1 : Int32} {l2 : Int32} {l3 : Int32} {h : xv_H} (e : b31_13 k4 F l0 l1 l2 l3 h = some (r, h')) : xx sc 31 13 [some (va_rf l0), some (.int l1), some (.int l2), some (.int l3)] [] h (fun v g => v = some (.int r) ∧ g = h') := by
  unfold b31_13 at e
  refine xo_aload_nQ (w := l0) rfl rfl ?_
  refine d_nn e (fun v1 g e1 => ?_)
  subst g
  replace e := e1
  clear e1
  refine d_getr rfl e (fun v2 e => ?_)
  refine xo_iload_n rfl rfl ?_
  refine d_nn e (fun v3 g e1 => ?_)
  subst g
  replace e := e1
  clear e1
  refine d_iald rfl e (fun v4 e => ?_)
  refine xo_iload_n rfl rfl ?_
  refine d_icmp_gt rfl rfl e (fun _ e => ?_) (fun _ e => ?_)
  · exact t31_26 hk4 e
  · exact t31_23 hk4 e
def b31_4 (F : Nat) : Nat → Option Nat → Int32 → Int32 → Int32 → xm Int32
  | 0, _, _, _, _ => fun _ => none
  | f + 1, l0, l1, l2, l3 => mb (nn l0) fun v1 => mb (gr 603 v1) fun v2 => mb (nn v2) fun v3 => mb (len 100 0 v3) fun v4 => if v4 ≤ l3 then b31_32 F l2 else b31_13 (b31_4 F f) F (some v1) l1 l2 l3
theorem t31_4 {sc : Nat × (Nat → Int32)} {F : Nat} {r : Int32} {h' : xv_H} : ∀ (f : Nat) (l0 : Option Nat) (l1 : Int32) (l2 : Int32) (l3 : Int32) (h : xv_H), b31_4 F f l0 l1 l2 l3 h = some (r, h') → xx sc 31 4 [some (va_rf l0), some (.int l1), some (.int l2), some (.int l3)] [] h (fun v g => v = some (.int r) ∧ g = h') := by
  intro f
  induction f with
  | zero => intro l0 l1 l2 l3 h e; cases e
  | succ f ih =>
    intro l0 l1 l2 l3 h e
    unfold b31_4 at e
    refine xo_iload_n rfl rfl ?_
    refine xo_aload_nQ (w := l0) rfl rfl ?_
    refine d_nn e (fun v1 g e1 => ?_)
    subst g
    replace e := e1
    clear e1
    refine d_getr rfl e (fun v2 e => ?_)
    refine d_nn e (fun v3 g e1 => ?_)
    subst g
    replace e := e1
    clear e1
    refine d_len rfl e (fun v4 e => ?_)
    refine d_icmp_ge rfl rfl e (fun _ e => ?_) (fun _ e => ?_)
    · exact t31_32 e
    · exact t31_13 (fun a0 a1 a2 a3 h e => ih a0 a1 a2 a3 h e) e
def b31_0 (F : Nat) (l0 : Option Nat) (l1 : Int32) : xm Int32 := b31_4 F F l0 l1 (0 : Int32) (0 : Int32)
theorem t31_0 {sc : Nat × (Nat → Int32)} {F : Nat} {r : Int32} {h' : xv_H} {l0 : Option Nat} {l1 : Int32} {d2 d3 : Option Value} {h : xv_H} (e : b31_0 F l0 l1 h = some (r, h')) : xx sc 31 0 [some (va_rf l0), some (.int l1), d2, d3] [] h (fun v g => v = some (.int r) ∧ g = h') := by
  unfold b31_0 at e
  refine xo_iconstV (x := 0) rfl (by decide) ?_
  refine xo_istore_n rfl (Nat.le_of_ble_eq_true rfl) rfl ?_
  refine xo_iconstV (x := 0) rfl (by decide) ?_
  refine xo_istore_n rfl (Nat.le_of_ble_eq_true rfl) rfl ?_
  exact t31_4 F _ _ _ _ _ e
def m31 (F : Nat) (this : Nat) (p0 : Int32) : xm Int32 := b31_0 F (some this) p0
theorem t31 {sc : Nat × (Nat → Int32)} {F : Nat} {this : Nat} {p0 : Int32} {h : xv_H} {r : Int32} {h' : xv_H} (e : m31 F this p0 h = some (r, h')) : xr sc 31 [.ref this, .int p0] h (fun v g => v = some (.int r) ∧ g = h') := by
  have e0 : xv_ent (xt_mx 31) [.ref this, .int p0] = [some (va_rf (some this)), some (.int p0), none, none] := by simp [xv_ent, xv_sl, va_rf_cat, cat_int, cat_long, cat_ref, cat_null, va_rf_some, show xt_mx 31 = 4 from rfl]
  unfold xr
  rw [e0]
  exact t31_0 e
-- CellTree$Content.inserted([III)[I
def b32_0 (F : Nat) (l0 : Option Nat) (l1 : Int32) (l2 : Int32) : xm (Option Nat) := mb (nn l0) fun v1 => mb (len 100 0 v1) fun v2 => mb (na 100 (v2 + (1 : Int32))) fun v3 => mb (cy 100 l1 (0 : Int32) v3 (0 : Int32) v1) fun _ => mb (si v3 l1 l2) fun _ => mb (len 100 0 v1) fun v4 => mb (cy 100 (v4 - l1) (l1 + (1 : Int32)) v3 l1 v1) fun _ => mr (some v3)
theorem t32_0 {sc : Nat × (Nat → Int32)} {F : Nat} {r : Option Nat} {h' : xv_H} {l0 : Option Nat} {l1 : Int32} {l2 : Int32} {d3 : Option Value} {h : xv_H} (e : b32_0 F l0 l1 l2 h = some (r, h')) : xx sc 32 0 [some (va_rf l0), some (.int l1), some (.int l2), d3] [] h (fun v g => v = some (va_rf r) ∧ g = h') := by
  unfold b32_0 at e
  refine xo_aload_nQ (w := l0) rfl rfl ?_
  refine d_nn e (fun v1 g e1 => ?_)
  subst g
  replace e := e1
  clear e1
  refine d_len rfl e (fun v2 e => ?_)
  refine xo_iconstV (x := 1) rfl (by decide) ?_
  refine xo_iadd rfl ?_
  refine d_newa rfl e (fun v3 h e => ?_)
  refine xo_astore_nQ (w := (some v3)) rfl (Nat.le_of_ble_eq_true rfl) rfl ?_
  refine xo_aload_nQ (w := (some v1)) rfl rfl ?_
  refine xo_iconstV (x := 0) rfl (by decide) ?_
  refine xo_aload_nQ (w := (some v3)) rfl rfl ?_
  refine xo_iconstV (x := 0) rfl (by decide) ?_
  refine xo_iload_n rfl rfl ?_
  refine d_copy rfl (by simp [xv_room, va_rf_cat, cat_int, cat_long, cat_ref, cat_null]) e (fun h e => ?_)
  refine xo_aload_nQ (w := (some v3)) rfl rfl ?_
  refine xo_iload_n rfl rfl ?_
  refine xo_iload_n rfl rfl ?_
  refine d_iast rfl e (fun h e => ?_)
  refine xo_aload_nQ (w := (some v1)) rfl rfl ?_
  refine xo_iload_n rfl rfl ?_
  refine xo_aload_nQ (w := (some v3)) rfl rfl ?_
  refine xo_iload_n rfl rfl ?_
  refine xo_iconstV (x := 1) rfl (by decide) ?_
  refine xo_iadd rfl ?_
  refine xo_aload_nQ (w := (some v1)) rfl rfl ?_
  refine d_len rfl e (fun v4 e => ?_)
  refine xo_iload_n rfl rfl ?_
  refine xo_isub rfl ?_
  refine d_copy rfl (by simp [xv_room, va_rf_cat, cat_int, cat_long, cat_ref, cat_null]) e (fun h e => ?_)
  refine xo_aload_nQ (w := (some v3)) rfl rfl ?_
  exact d_aret rfl e
def m32 (F : Nat) (p0 : Option Nat) (p1 : Int32) (p2 : Int32) : xm (Option Nat) := b32_0 F p0 p1 p2
theorem t32 {sc : Nat × (Nat → Int32)} {F : Nat} {p0 : Option Nat} {p1 : Int32} {p2 : Int32} {h : xv_H} {r : Option Nat} {h' : xv_H} (e : m32 F p0 p1 p2 h = some (r, h')) : xr sc 32 [va_rf p0, .int p1, .int p2] h (fun v g => v = some (va_rf r) ∧ g = h') := by
  have e0 : xv_ent (xt_mx 32) [va_rf p0, .int p1, .int p2] = [some (va_rf p0), some (.int p1), some (.int p2), none] := by simp [xv_ent, xv_sl, va_rf_cat, cat_int, cat_long, cat_ref, cat_null, va_rf_some, show xt_mx 32 = 4 from rfl]
  unfold xr
  rw [e0]
  exact t32_0 e
-- CellTree$Content.withEntry(II)LCellTree$Content;
def b30_54 (F : Nat) (l0 : Option Nat) (l1 : Int32) (l2 : Int32) : xm (Option Nat) := mb (nn l0) fun v1 => mb (vc 6 v1) fun _ => mb (m31 F v1 l1) fun v2 => mb (nw 6 5) fun v3 => mb (gi 600 v1) fun v4 => mb (gi 601 v1) fun v5 => mb (gi 602 v1) fun v6 => mb (gr 603 v1) fun v7 => mb (m32 F v7 v2 l1) fun v8 => mb (gr 604 v1) fun v9 => mb (m32 F v9 v2 l2) fun v10 => mb (m1 F v3 v4 v5 v6 v8 v10) fun _ => mr (some v3)
theorem t30_54 {sc : Nat × (Nat → Int32)} {F : Nat} {r : Option Nat} {h' : xv_H} {l0 : Option Nat} {l1 : Int32} {l2 : Int32} {d3 d4 : Option Value} {h : xv_H} (e : b30_54 F l0 l1 l2 h = some (r, h')) : xx sc 30 54 [some (va_rf l0), some (.int l1), some (.int l2), d3, d4] [] h (fun v g => v = some (va_rf r) ∧ g = h') := by
  unfold b30_54 at e
  refine xo_aload_nQ (w := l0) rfl rfl ?_
  refine xo_iload_n rfl rfl ?_
  refine d_nn e (fun v1 g e1 => ?_)
  subst g
  replace e := e1
  clear e1
  refine d_virtual_i (av := [.int l1]) (rest := []) rfl ⟨by decide, by decide⟩ rfl rfl (by simp [xv_fit, va_rf_cat, cat_int, cat_long, cat_ref, cat_null, show xt_mx 31 = 4 from rfl, show xt_lg 31 = [] from rfl]) (by simp [xv_room, va_rf_cat, cat_int, cat_long, cat_ref, cat_null]) (fun x0 h1 e1 => t31 e1) e (fun v2 h e => ?_)
  refine xo_istore rfl (Nat.le_of_ble_eq_true rfl) rfl ?_
  refine d_new rfl e (fun v3 h e => ?_)
  refine xo_dup rfl (by first | rfl | exact va_rf_cat _) ?_
  refine xo_aload_nQ (w := (some v1)) rfl rfl ?_
  refine d_geti rfl e (fun v4 e => ?_)
  refine xo_aload_nQ (w := (some v1)) rfl rfl ?_
  refine d_geti rfl e (fun v5 e => ?_)
  refine xo_aload_nQ (w := (some v1)) rfl rfl ?_
  refine d_geti rfl e (fun v6 e => ?_)
  refine xo_aload_nQ (w := (some v1)) rfl rfl ?_
  refine d_getr rfl e (fun v7 e => ?_)
  refine xo_iload rfl rfl ?_
  refine xo_iload_n rfl rfl ?_
  refine d_static_a (av := [va_rf v7, .int v2, .int l1]) (rest := [.int v6, .int v5, .int v4, va_rf (some v3), va_rf (some v3)]) rfl ⟨by decide, by decide, by decide⟩ rfl rfl (by simp [xv_fit, va_rf_cat, cat_int, cat_long, cat_ref, cat_null, show xt_mx 32 = 4 from rfl, show xt_lg 32 = [] from rfl]) (by simp [xv_room, va_rf_cat, cat_int, cat_long, cat_ref, cat_null]) (fun x0 h1 e1 => t32 e1) e (fun v8 h e => ?_)
  refine xo_aload_nQ (w := (some v1)) rfl rfl ?_
  refine d_getr rfl e (fun v9 e => ?_)
  refine xo_iload rfl rfl ?_
  refine xo_iload_n rfl rfl ?_
  refine d_static_a (av := [va_rf v9, .int v2, .int l2]) (rest := [va_rf v8, .int v6, .int v5, .int v4, va_rf (some v3), va_rf (some v3)]) rfl ⟨by decide, by decide, by decide⟩ rfl rfl (by simp [xv_fit, va_rf_cat, cat_int, cat_long, cat_ref, cat_null, show xt_mx 32 = 4 from rfl, show xt_lg 32 = [] from rfl]) (by simp [xv_room, va_rf_cat, cat_int, cat_long, cat_ref, cat_null]) (fun x0 h1 e1 => t32 e1) e (fun v10 h e => ?_)
  refine d_special_v (av := [.int v4, .int v5, .int v6, va_rf v8, va_rf v10]) (rest := [va_rf (some v3)]) rfl (by decide) rfl rfl (by simp [xv_fit, va_rf_cat, cat_int, cat_long, cat_ref, cat_null, show xt_mx 1 = 6 from rfl, show xt_lg 1 = [] from rfl]) (by simp [xv_room, va_rf_cat, cat_int, cat_long, cat_ref, cat_null]) (fun x0 h1 e1 => t1 e1) e (fun _ h e => ?_)
  exact d_aret rfl e
def b30_11 (F : Nat) (l0 : Option Nat) (l2 : Int32) (l3 : Int32) : xm (Option Nat) := mb (nn l0) fun v1 => mb (gr 604 v1) fun v2 => mb (nn v2) fun v3 => mb (cn v3) fun v4 => mb (ct 100 (some v4)) fun _ => mb (si v4 l3 l2) fun _ => mb (nw 6 5) fun v5 => mb (gi 600 v1) fun v6 => mb (gi 601 v1) fun v7 => mb (gi 602 v1) fun v8 => mb (gr 603 v1) fun v9 => mb (m1 F v5 v6 v7 v8 v9 (some v4)) fun _ => mr (some v5)
theorem t30_11 {sc : Nat × (Nat → Int32)} {F : Nat} {r : Option Nat} {h' : xv_H} {l0 : Option Nat} {l2 : Int32} {l3 : Int32} {d1 d4 : Option Value} {h : xv_H} (e : b30_11 F l0 l2 l3 h = some (r, h')) : xx sc 30 11 [some (va_rf l0), d1, some (.int l2), some (.int l3), d4] [] h (fun v g => v = some (va_rf r) ∧ g = h') := by
  unfold b30_11 at e
  refine xo_aload_nQ (w := l0) rfl rfl ?_
  refine d_nn e (fun v1 g e1 => ?_)
  subst g
  replace e := e1
  clear e1
  refine d_getr rfl e (fun v2 e => ?_)
  refine d_nn e (fun v3 g e1 => ?_)
  subst g
  replace e := e1
  clear e1
  refine d_clone rfl (by simp [xv_room, va_rf_cat, cat_int, cat_long, cat_ref, cat_null]) e (fun v4 h e => ?_)
  refine d_cast (w := (some v4)) rfl e (fun e => ?_)
  refine xo_astoreQ (w := (some v4)) rfl (Nat.le_of_ble_eq_true rfl) rfl ?_
  refine xo_aloadQ (w := (some v4)) rfl rfl ?_
  refine xo_iload_n rfl rfl ?_
  refine xo_iload_n rfl rfl ?_
  refine d_iast rfl e (fun h e => ?_)
  refine d_new rfl e (fun v5 h e => ?_)
  refine xo_dup rfl (by first | rfl | exact va_rf_cat _) ?_
  refine xo_aload_nQ (w := (some v1)) rfl rfl ?_
  refine d_geti rfl e (fun v6 e => ?_)
  refine xo_aload_nQ (w := (some v1)) rfl rfl ?_
  refine d_geti rfl e (fun v7 e => ?_)
  refine xo_aload_nQ (w := (some v1)) rfl rfl ?_
  refine d_geti rfl e (fun v8 e => ?_)
  refine xo_aload_nQ (w := (some v1)) rfl rfl ?_
  refine d_getr rfl e (fun v9 e => ?_)
  refine xo_aloadQ (w := (some v4)) rfl rfl ?_
  refine d_special_v (av := [.int v6, .int v7, .int v8, va_rf v9, va_rf (some v4)]) (rest := [va_rf (some v5)]) rfl (by decide) rfl rfl (by simp [xv_fit, va_rf_cat, cat_int, cat_long, cat_ref, cat_null, show xt_mx 1 = 6 from rfl, show xt_lg 1 = [] from rfl]) (by simp [xv_room, va_rf_cat, cat_int, cat_long, cat_ref, cat_null]) (fun x0 h1 e1 => t1 e1) e (fun _ h e => ?_)
  exact d_aret rfl e
def b30_0 (F : Nat) (l0 : Option Nat) (l1 : Int32) (l2 : Int32) : xm (Option Nat) := mb (nn l0) fun v1 => mb (vc 6 v1) fun _ => mb (m28 F v1 l1) fun v2 => if v2 = (-1 : Int32) then b30_54 F (some v1) l1 l2 else b30_11 F (some v1) l2 v2
theorem t30_0 {sc : Nat × (Nat → Int32)} {F : Nat} {r : Option Nat} {h' : xv_H} {l0 : Option Nat} {l1 : Int32} {l2 : Int32} {d3 d4 : Option Value} {h : xv_H} (e : b30_0 F l0 l1 l2 h = some (r, h')) : xx sc 30 0 [some (va_rf l0), some (.int l1), some (.int l2), d3, d4] [] h (fun v g => v = some (va_rf r) ∧ g = h') := by
  unfold b30_0 at e
  refine xo_aload_nQ (w := l0) rfl rfl ?_
  refine xo_iload_n rfl rfl ?_
  refine d_nn e (fun v1 g e1 => ?_)
  subst g
  replace e := e1
  clear e1
  refine d_virtual_i (av := [.int l1]) (rest := []) rfl ⟨by decide, by decide⟩ rfl rfl (by simp [xv_fit, va_rf_cat, cat_int, cat_long, cat_ref, cat_null, show xt_mx 28 = 3 from rfl, show xt_lg 28 = [] from rfl]) (by simp [xv_room, va_rf_cat, cat_int, cat_long, cat_ref, cat_null]) (fun x0 h1 e1 => t28 e1) e (fun v2 h e => ?_)
  refine xo_istore_n rfl (Nat.le_of_ble_eq_true rfl) rfl ?_
  refine xo_iload_n rfl rfl ?_
  refine xo_iconstV (x := (-1)) rfl (by decide) ?_
  refine d_icmp_eq rfl rfl e (fun _ e => ?_) (fun _ e => ?_)
  · exact t30_54 e
  · exact t30_11 e
def m30 (F : Nat) (this : Nat) (p0 : Int32) (p1 : Int32) : xm (Option Nat) := b30_0 F (some this) p0 p1
theorem t30 {sc : Nat × (Nat → Int32)} {F : Nat} {this : Nat} {p0 : Int32} {p1 : Int32} {h : xv_H} {r : Option Nat} {h' : xv_H} (e : m30 F this p0 p1 h = some (r, h')) : xr sc 30 [.ref this, .int p0, .int p1] h (fun v g => v = some (va_rf r) ∧ g = h') := by
  have e0 : xv_ent (xt_mx 30) [.ref this, .int p0, .int p1] = [some (va_rf (some this)), some (.int p0), some (.int p1), none, none] := by simp [xv_ent, xv_sl, va_rf_cat, cat_int, cat_long, cat_ref, cat_null, va_rf_some, show xt_mx 30 = 5 from rfl]
  unfold xr
  rw [e0]
  exact t30_0 e
-- CellTree$Client.draftChange(LCellTree$Content;)V
def b33_0 (F : Nat) (l0 : Option Nat) (l1 : Option Nat) : xm Unit := mb (nn l0) fun v1 => mb (vc 1 v1) fun _ => mb (m23 F v1 (some (xv_SB + 13))) fun v2 => mb (vc 1 v1) fun _ => mb (m19 F v1) fun v3 => mb (gr 106 v1) fun v4 => mb (nn v4) fun v5 => mb (gi 700 v5) fun v6 => mb (nn v2) fun v7 => mb (vc 4 v7) fun _ => mb (m25 F v7 (some (xv_SB + 9)) v3 v6 l1) fun _ => mr ()
theorem t33_0 {sc : Nat × (Nat → Int32)} {F : Nat} {r : Unit} {h' : xv_H} {l0 : Option Nat} {l1 : Option Nat} {h : xv_H} (e : b33_0 F l0 l1 h = some (r, h')) : xx sc 33 0 [some (va_rf l0), some (va_rf l1)] [] h (fun v g => v = none ∧ g = h') := by
  unfold b33_0 at e
  refine xo_aload_nQ (w := l0) rfl rfl ?_
  refine xo_getsV rfl ?_
  refine d_nn e (fun v1 g e1 => ?_)
  subst g
  replace e := e1
  clear e1
  refine d_virtual_a (av := [va_rf (some (xv_SB + 13))]) (rest := []) rfl ⟨by decide, by decide⟩ rfl rfl (by simp [xv_fit, va_rf_cat, cat_int, cat_long, cat_ref, cat_null, show xt_mx 23 = 2 from rfl, show xt_lg 23 = [] from rfl]) (by simp [xv_room, va_rf_cat, cat_int, cat_long, cat_ref, cat_null]) (fun x0 h1 e1 => t23 e1) e (fun v2 h e => ?_)
  refine xo_getsV rfl ?_
  refine xo_aload_nQ (w := (some v1)) rfl rfl ?_
  refine d_virtual_i (av := []) (rest := [va_rf (some (xv_SB + 9)), va_rf v2]) rfl ⟨by decide, by decide⟩ rfl rfl (by simp [xv_fit, va_rf_cat, cat_int, cat_long, cat_ref, cat_null, show xt_mx 19 = 1 from rfl, show xt_lg 19 = [] from rfl]) (by simp [xv_room, va_rf_cat, cat_int, cat_long, cat_ref, cat_null]) (fun x0 h1 e1 => t19 e1) e (fun v3 h e => ?_)
  refine xo_aload_nQ (w := (some v1)) rfl rfl ?_
  refine d_getr rfl e (fun v4 e => ?_)
  refine d_nn e (fun v5 g e1 => ?_)
  subst g
  replace e := e1
  clear e1
  refine d_geti rfl e (fun v6 e => ?_)
  refine xo_aload_nQ (w := l1) rfl rfl ?_
  refine d_nn e (fun v7 g e1 => ?_)
  subst g
  replace e := e1
  clear e1
  refine d_virtual_v (av := [va_rf (some (xv_SB + 9)), .int v3, .int v6, va_rf l1]) (rest := []) rfl ⟨by decide, by decide⟩ rfl rfl (by simp [xv_fit, va_rf_cat, cat_int, cat_long, cat_ref, cat_null, show xt_mx 25 = 5 from rfl, show xt_lg 25 = [] from rfl]) (by simp [xv_room, va_rf_cat, cat_int, cat_long, cat_ref, cat_null]) (fun x0 h1 e1 => t25 e1) e (fun _ h e => ?_)
  exact d_ret rfl e
def m33 (F : Nat) (this : Nat) (p0 : Option Nat) : xm Unit := b33_0 F (some this) p0
theorem t33 {sc : Nat × (Nat → Int32)} {F : Nat} {this : Nat} {p0 : Option Nat} {h : xv_H} {r : Unit} {h' : xv_H} (e : m33 F this p0 h = some (r, h')) : xr sc 33 [.ref this, va_rf p0] h (fun v g => v = none ∧ g = h') := by
  have e0 : xv_ent (xt_mx 33) [.ref this, va_rf p0] = [some (va_rf (some this)), some (va_rf p0)] := by simp [xv_ent, xv_sl, va_rf_cat, cat_int, cat_long, cat_ref, cat_null, va_rf_some, show xt_mx 33 = 2 from rfl]
  unfold xr
  rw [e0]
  exact t33_0 e
-- CellTree$Content.removed([II)[I
def b35_0 (F : Nat) (l0 : Option Nat) (l1 : Int32) : xm (Option Nat) := mb (nn l0) fun v1 => mb (len 100 0 v1) fun v2 => mb (na 100 (v2 - (1 : Int32))) fun v3 => mb (cy 100 l1 (0 : Int32) v3 (0 : Int32) v1) fun _ => mb (len 100 0 v3) fun v4 => mb (cy 100 (v4 - l1) l1 v3 (l1 + (1 : Int32)) v1) fun _ => mr (some v3)
theorem t35_0 {sc : Nat × (Nat → Int32)} {F : Nat} {r : Option Nat} {h' : xv_H} {l0 : Option Nat} {l1 : Int32} {d2 : Option Value} {h : xv_H} (e : b35_0 F l0 l1 h = some (r, h')) : xx sc 35 0 [some (va_rf l0), some (.int l1), d2] [] h (fun v g => v = some (va_rf r) ∧ g = h') := by
  unfold b35_0 at e
  refine xo_aload_nQ (w := l0) rfl rfl ?_
  refine d_nn e (fun v1 g e1 => ?_)
  subst g
  replace e := e1
  clear e1
  refine d_len rfl e (fun v2 e => ?_)
  refine xo_iconstV (x := 1) rfl (by decide) ?_
  refine xo_isub rfl ?_
  refine d_newa rfl e (fun v3 h e => ?_)
  refine xo_astore_nQ (w := (some v3)) rfl (Nat.le_of_ble_eq_true rfl) rfl ?_
  refine xo_aload_nQ (w := (some v1)) rfl rfl ?_
  refine xo_iconstV (x := 0) rfl (by decide) ?_
  refine xo_aload_nQ (w := (some v3)) rfl rfl ?_
  refine xo_iconstV (x := 0) rfl (by decide) ?_
  refine xo_iload_n rfl rfl ?_
  refine d_copy rfl (by simp [xv_room, va_rf_cat, cat_int, cat_long, cat_ref, cat_null]) e (fun h e => ?_)
  refine xo_aload_nQ (w := (some v1)) rfl rfl ?_
  refine xo_iload_n rfl rfl ?_
  refine xo_iconstV (x := 1) rfl (by decide) ?_
  refine xo_iadd rfl ?_
  refine xo_aload_nQ (w := (some v3)) rfl rfl ?_
  refine xo_iload_n rfl rfl ?_
  refine xo_aload_nQ (w := (some v3)) rfl rfl ?_
  refine d_len rfl e (fun v4 e => ?_)
  refine xo_iload_n rfl rfl ?_
  refine xo_isub rfl ?_
  refine d_copy rfl (by simp [xv_room, va_rf_cat, cat_int, cat_long, cat_ref, cat_null]) e (fun h e => ?_)
  refine xo_aload_nQ (w := (some v3)) rfl rfl ?_
  exact d_aret rfl e
def m35 (F : Nat) (p0 : Option Nat) (p1 : Int32) : xm (Option Nat) := b35_0 F p0 p1
theorem t35 {sc : Nat × (Nat → Int32)} {F : Nat} {p0 : Option Nat} {p1 : Int32} {h : xv_H} {r : Option Nat} {h' : xv_H} (e : m35 F p0 p1 h = some (r, h')) : xr sc 35 [va_rf p0, .int p1] h (fun v g => v = some (va_rf r) ∧ g = h') := by
  have e0 : xv_ent (xt_mx 35) [va_rf p0, .int p1] = [some (va_rf p0), some (.int p1), none] := by simp [xv_ent, xv_sl, va_rf_cat, cat_int, cat_long, cat_ref, cat_null, va_rf_some, show xt_mx 35 = 3 from rfl]
  unfold xr
  rw [e0]
  exact t35_0 e
-- CellTree$Content.withoutEntry(I)LCellTree$Content;
def b34_0 (F : Nat) (l0 : Option Nat) (l1 : Int32) : xm (Option Nat) := mb (nw 6 5) fun v1 => mb (nn l0) fun v2 => mb (gi 600 v2) fun v3 => mb (gi 601 v2) fun v4 => mb (gi 602 v2) fun v5 => mb (gr 603 v2) fun v6 => mb (m35 F v6 l1) fun v7 => mb (gr 604 v2) fun v8 => mb (m35 F v8 l1) fun v9 => mb (m1 F v1 v3 v4 v5 v7 v9) fun _ => mr (some v1)
theorem t34_0 {sc : Nat × (Nat → Int32)} {F : Nat} {r : Option Nat} {h' : xv_H} {l0 : Option Nat} {l1 : Int32} {h : xv_H} (e : b34_0 F l0 l1 h = some (r, h')) : xx sc 34 0 [some (va_rf l0), some (.int l1)] [] h (fun v g => v = some (va_rf r) ∧ g = h') := by
  unfold b34_0 at e
  refine d_new rfl e (fun v1 h e => ?_)
  refine xo_dup rfl (by first | rfl | exact va_rf_cat _) ?_
  refine xo_aload_nQ (w := l0) rfl rfl ?_
  refine d_nn e (fun v2 g e1 => ?_)
  subst g
  replace e := e1
  clear e1
  refine d_geti rfl e (fun v3 e => ?_)
  refine xo_aload_nQ (w := (some v2)) rfl rfl ?_
  refine d_geti rfl e (fun v4 e => ?_)
  refine xo_aload_nQ (w := (some v2)) rfl rfl ?_
  refine d_geti rfl e (fun v5 e => ?_)
  refine xo_aload_nQ (w := (some v2)) rfl rfl ?_
  refine d_getr rfl e (fun v6 e => ?_)
  refine xo_iload_n rfl rfl ?_
  refine d_static_a (av := [va_rf v6, .int l1]) (rest := [.int v5, .int v4, .int v3, va_rf (some v1), va_rf (some v1)]) rfl ⟨by decide, by decide, by decide⟩ rfl rfl (by simp [xv_fit, va_rf_cat, cat_int, cat_long, cat_ref, cat_null, show xt_mx 35 = 3 from rfl, show xt_lg 35 = [] from rfl]) (by simp [xv_room, va_rf_cat, cat_int, cat_long, cat_ref, cat_null]) (fun x0 h1 e1 => t35 e1) e (fun v7 h e => ?_)
  refine xo_aload_nQ (w := (some v2)) rfl rfl ?_
  refine d_getr rfl e (fun v8 e => ?_)
  refine xo_iload_n rfl rfl ?_
  refine d_static_a (av := [va_rf v8, .int l1]) (rest := [va_rf v7, .int v5, .int v4, .int v3, va_rf (some v1), va_rf (some v1)]) rfl ⟨by decide, by decide, by decide⟩ rfl rfl (by simp [xv_fit, va_rf_cat, cat_int, cat_long, cat_ref, cat_null, show xt_mx 35 = 3 from rfl, show xt_lg 35 = [] from rfl]) (by simp [xv_room, va_rf_cat, cat_int, cat_long, cat_ref, cat_null]) (fun x0 h1 e1 => t35 e1) e (fun v9 h e => ?_)
  refine d_special_v (av := [.int v3, .int v4, .int v5, va_rf v7, va_rf v9]) (rest := [va_rf (some v1)]) rfl (by decide) rfl rfl (by simp [xv_fit, va_rf_cat, cat_int, cat_long, cat_ref, cat_null, show xt_mx 1 = 6 from rfl, show xt_lg 1 = [] from rfl]) (by simp [xv_room, va_rf_cat, cat_int, cat_long, cat_ref, cat_null]) (fun x0 h1 e1 => t1 e1) e (fun _ h e => ?_)
  exact d_aret rfl e
def m34 (F : Nat) (this : Nat) (p0 : Int32) : xm (Option Nat) := b34_0 F (some this) p0
theorem t34 {sc : Nat × (Nat → Int32)} {F : Nat} {this : Nat} {p0 : Int32} {h : xv_H} {r : Option Nat} {h' : xv_H} (e : m34 F this p0 h = some (r, h')) : xr sc 34 [.ref this, .int p0] h (fun v g => v = some (va_rf r) ∧ g = h') := by
  have e0 : xv_ent (xt_mx 34) [.ref this, .int p0] = [some (va_rf (some this)), some (.int p0)] := by simp [xv_ent, xv_sl, va_rf_cat, cat_int, cat_long, cat_ref, cat_null, va_rf_some, show xt_mx 34 = 2 from rfl]
  unfold xr
  rw [e0]
  exact t34_0 e
-- CellTree$Client.useLeaf()V
def b27_184 (F : Nat) : xm Unit := mr ()
theorem t27_184 {sc : Nat × (Nat → Int32)} {F : Nat} {r : Unit} {h' : xv_H} {d0 d1 d2 : Option Value} {h : xv_H} (e : b27_184 F h = some (r, h')) : xx sc 27 184 [d0, d1, d2] [] h (fun v g => v = none ∧ g = h') := by
  unfold b27_184 at e
  exact d_ret rfl e
def b27_177 (F : Nat) (l0 : Option Nat) : xm Unit := mb (nn l0) fun v1 => mb (gr 102 v1) fun v2 => mb (nn v2) fun v3 => mb (vc 2 v3) fun _ => mb (m21 F v3) fun _ => b27_184 F
theorem t27_177 {sc : Nat × (Nat → Int32)} {F : Nat} {r : Unit} {h' : xv_H} {l0 : Option Nat} {d1 d2 : Option Value} {h : xv_H} (e : b27_177 F l0 h = some (r, h')) : xx sc 27 177 [some (va_rf l0), d1, d2] [] h (fun v g => v = none ∧ g = h') := by
  unfold b27_177 at e
  refine xo_aload_nQ (w := l0) rfl rfl ?_
  refine d_nn e (fun v1 g e1 => ?_)
  subst g
  replace e := e1
  clear e1
  refine d_getr rfl e (fun v2 e => ?_)
  refine d_nn e (fun v3 g e1 => ?_)
  subst g
  replace e := e1
  clear e1
  refine d_virtual_v (av := []) (rest := []) rfl ⟨by decide, by decide⟩ rfl rfl (by simp [xv_fit, va_rf_cat, cat_int, cat_long, cat_ref, cat_null, show xt_mx 21 = 1 from rfl, show xt_lg 21 = [] from rfl]) (by simp [xv_room, va_rf_cat, cat_int, cat_long, cat_ref, cat_null]) (fun x0 h1 e1 => t21 e1) e (fun _ h e => ?_)
  exact t27_184 e
def b27_165 (F : Nat) (l0 : Option Nat) (l1 : Option Nat) (l2 : Int32) : xm Unit := mb (nn l1) fun v1 => mb (vc 6 v1) fun _ => mb (m34 F v1 l2) fun v2 => mb (nn l0) fun v3 => mb (vc 1 v3) fun _ => mb (m33 F v3 v2) fun _ => b27_184 F
theorem t27_165 {sc : Nat × (Nat → Int32)} {F : Nat} {r : Unit} {h' : xv_H} {l0 : Option Nat} {l1 : Option Nat} {l2 : Int32} {h : xv_H} (e : b27_165 F l0 l1 l2 h = some (r, h')) : xx sc 27 165 [some (va_rf l0), some (va_rf l1), some (.int l2)] [] h (fun v g => v = none ∧ g = h') := by
  unfold b27_165 at e
  refine xo_aload_nQ (w := l0) rfl rfl ?_
  refine xo_aload_nQ (w := l1) rfl rfl ?_
  refine xo_iload_n rfl rfl ?_
  refine d_nn e (fun v1 g e1 => ?_)
  subst g
  replace e := e1
  clear e1
  refine d_virtual_a (av := [.int l2]) (rest := [va_rf l0]) rfl ⟨by decide, by decide⟩ rfl rfl (by simp [xv_fit, va_rf_cat, cat_int, cat_long, cat_ref, cat_null, show xt_mx 34 = 2 from rfl, show xt_lg 34 = [] from rfl]) (by simp [xv_room, va_rf_cat, cat_int, cat_long, cat_ref, cat_null]) (fun x0 h1 e1 => t34 e1) e (fun v2 h e => ?_)
  refine d_nn e (fun v3 g e1 => ?_)
  subst g
  replace e := e1
  clear e1
  refine d_virtual_v (av := [va_rf v2]) (rest := []) rfl ⟨by decide, by decide⟩ rfl rfl (by simp [xv_fit, va_rf_cat, cat_int, cat_long, cat_ref, cat_null, show xt_mx 33 = 2 from rfl, show xt_lg 33 = [] from rfl]) (by simp [xv_room, va_rf_cat, cat_int, cat_long, cat_ref, cat_null]) (fun x0 h1 e1 => t33 e1) e (fun _ h e => ?_)
  refine xo_goto rfl rfl ?_
  exact t27_184 e
def b27_155 (F : Nat) (l0 : Option Nat) (l1 : Option Nat) (l2 : Int32) : xm Unit := mb (nn l0) fun v1 => mb (gr 102 v1) fun v2 => mb (nn v2) fun v3 => mb (gi 209 v3) fun v4 => if v4 = 0 then b27_177 F (some v1) else b27_165 F (some v1) l1 l2
theorem t27_155 {sc : Nat × (Nat → Int32)} {F : Nat} {r : Unit} {h' : xv_H} {l0 : Option Nat} {l1 : Option Nat} {l2 : Int32} {h : xv_H} (e : b27_155 F l0 l1 l2 h = some (r, h')) : xx sc 27 155 [some (va_rf l0), some (va_rf l1), some (.int l2)] [] h (fun v g => v = none ∧ g = h') := by
  unfold b27_155 at e
  refine xo_aload_nQ (w := l0) rfl rfl ?_
  refine d_nn e (fun v1 g e1 => ?_)
  subst g
  replace e := e1
  clear e1
  refine d_getr rfl e (fun v2 e => ?_)
  refine d_nn e (fun v3 g e1 => ?_)
  subst g
  replace e := e1
  clear e1
  refine d_getz rfl e (fun v4 e => ?_)
  refine d_if_eq rfl rfl e (fun _ e => ?_) (fun _ e => ?_)
  · exact t27_177 e
  · exact t27_165 e
def b27_142 (F : Nat) (l0 : Option Nat) (l1 : Option Nat) (l2 : Int32) : xm Unit := mb (nn l0) fun v1 => mb (gr 102 v1) fun v2 => mb (nn v2) fun v3 => mb (gr 203 v3) fun v4 => mb (cq v4 (some (xv_SB + 5))) fun _ => if ¬ v4 = (some (xv_SB + 5)) then b27_177 F (some v1) else b27_155 F (some v1) l1 l2
theorem t27_142 {sc : Nat × (Nat → Int32)} {F : Nat} {r : Unit} {h' : xv_H} {l0 : Option Nat} {l1 : Option Nat} {l2 : Int32} {h : xv_H} (e : b27_142 F l0 l1 l2 h = some (r, h')) : xx sc 27 142 [some (va_rf l0), some (va_rf l1), some (.int l2)] [] h (fun v g => v = none ∧ g = h') := by
  unfold b27_142 at e
  refine xo_aload_nQ (w := l0) rfl rfl ?_
  refine d_nn e (fun v1 g e1 => ?_)
  subst g
  replace e := e1
  clear e1
  refine d_getr rfl e (fun v2 e => ?_)
  refine d_nn e (fun v3 g e1 => ?_)
  subst g
  replace e := e1
  clear e1
  refine d_getr rfl e (fun v4 e => ?_)
  refine xo_getsV rfl ?_
  refine d_acmp_ne (w1 := v4) (w2 := (some (xv_SB + 5))) rfl rfl e (fun _ e => ?_) (fun _ e => ?_)
  · exact t27_177 e
  · exact t27_155 e
def b27_117 (F : Nat) (l0 : Option Nat) (l1 : Option Nat) : xm Unit := mb (nn l0) fun v1 => mb (gr 102 v1) fun v2 => mb (nn v2) fun v3 => mb (gi 204 v3) fun v4 => mb (gr 102 v1) fun v5 => mb (nn v5) fun v6 => mb (gi 206 v6) fun v7 => mb (nn l1) fun v8 => mb (vc 6 v8) fun _ => mb (m30 F v8 v4 v7) fun v9 => mb (vc 1 v1) fun _ => mb (m33 F v1 v9) fun _ => b27_184 F
theorem t27_117 {sc : Nat × (Nat → Int32)} {F : Nat} {r : Unit} {h' : xv_H} {l0 : Option Nat} {l1 : Option Nat} {d2 : Option Value} {h : xv_H} (e : b27_117 F l0 l1 h = some (r, h')) : xx sc 27 117 [some (va_rf l0), some (va_rf l1), d2] [] h (fun v g => v = none ∧ g = h') := by
  unfold b27_117 at e
  refine xo_aload_nQ (w := l0) rfl rfl ?_
  refine xo_aload_nQ (w := l1) rfl rfl ?_
  refine xo_aload_nQ (w := l0) rfl rfl ?_
  refine d_nn e (fun v1 g e1 => ?_)
  subst g
  replace e := e1
  clear e1
  refine d_getr rfl e (fun v2 e => ?_)
  refine d_nn e (fun v3 g e1 => ?_)
  subst g
  replace e := e1
  clear e1
  refine d_geti rfl e (fun v4 e => ?_)
  refine xo_aload_nQ (w := (some v1)) rfl rfl ?_
  refine d_getr rfl e (fun v5 e => ?_)
  refine d_nn e (fun v6 g e1 => ?_)
  subst g
  replace e := e1
  clear e1
  refine d_geti rfl e (fun v7 e => ?_)
  refine d_nn e (fun v8 g e1 => ?_)
  subst g
  replace e := e1
  clear e1
  refine d_virtual_a (av := [.int v4, .int v7]) (rest := [va_rf (some v1)]) rfl ⟨by decide, by decide⟩ rfl rfl (by simp [xv_fit, va_rf_cat, cat_int, cat_long, cat_ref, cat_null, show xt_mx 30 = 5 from rfl, show xt_lg 30 = [] from rfl]) (by simp [xv_room, va_rf_cat, cat_int, cat_long, cat_ref, cat_null]) (fun x0 h1 e1 => t30 e1) e (fun v9 h e => ?_)
  refine d_virtual_v (av := [va_rf v9]) (rest := []) rfl ⟨by decide, by decide⟩ rfl rfl (by simp [xv_fit, va_rf_cat, cat_int, cat_long, cat_ref, cat_null, show xt_mx 33 = 2 from rfl, show xt_lg 33 = [] from rfl]) (by simp [xv_room, va_rf_cat, cat_int, cat_long, cat_ref, cat_null]) (fun x0 h1 e1 => t33 e1) e (fun _ h e => ?_)
  refine xo_goto rfl rfl ?_
  exact t27_184 e
def b27_104 (F : Nat) (l0 : Option Nat) (l1 : Option Nat) (l2 : Int32) : xm Unit := mb (nn l0) fun v1 => mb (gr 102 v1) fun v2 => mb (nn v2) fun v3 => mb (gr 203 v3) fun v4 => mb (cq v4 (some (xv_SB + 4))) fun _ => if ¬ v4 = (some (xv_SB + 4)) then b27_142 F (some v1) l1 l2 else b27_117 F (some v1) l1
theorem t27_104 {sc : Nat × (Nat → Int32)} {F : Nat} {r : Unit} {h' : xv_H} {l0 : Option Nat} {l1 : Option Nat} {l2 : Int32} {h : xv_H} (e : b27_104 F l0 l1 l2 h = some (r, h')) : xx sc 27 104 [some (va_rf l0), some (va_rf l1), some (.int l2)] [] h (fun v g => v = none ∧ g = h') := by
  unfold b27_104 at e
  refine xo_aload_nQ (w := l0) rfl rfl ?_
  refine d_nn e (fun v1 g e1 => ?_)
  subst g
  replace e := e1
  clear e1
  refine d_getr rfl e (fun v2 e => ?_)
  refine d_nn e (fun v3 g e1 => ?_)
  subst g
  replace e := e1
  clear e1
  refine d_getr rfl e (fun v4 e => ?_)
  refine xo_getsV rfl ?_
  refine d_acmp_ne (w1 := v4) (w2 := (some (xv_SB + 4))) rfl rfl e (fun _ e => ?_) (fun _ e => ?_)
  · exact t27_142 e
  · exact t27_117 e
def b27_94 (F : Nat) (l0 : Option Nat) : xm Unit := mb (nn l0) fun v1 => mb (pr 109 v1 (some (xv_SB + 18))) fun _ => b27_184 F
theorem t27_94 {sc : Nat × (Nat → Int32)} {F : Nat} {r : Unit} {h' : xv_H} {l0 : Option Nat} {d1 d2 : Option Value} {h : xv_H} (e : b27_94 F l0 h = some (r, h')) : xx sc 27 94 [some (va_rf l0), d1, d2] [] h (fun v g => v = none ∧ g = h') := by
  unfold b27_94 at e
  refine xo_aload_nQ (w := l0) rfl rfl ?_
  refine xo_getsV rfl ?_
  refine d_nn e (fun v1 g e1 => ?_)
  subst g
  replace e := e1
  clear e1
  refine d_putr (w := (some (xv_SB + 18))) rfl e (fun h e => ?_)
  refine xo_goto rfl rfl ?_
  exact t27_184 e
def b27_87 (F : Nat) (l0 : Option Nat) (l1 : Option Nat) (l2 : Int32) : xm Unit := mb (nn l1) fun v1 => mb (vc 6 v1) fun _ => mb (m29 F v1) fun v2 => if v2 = 0 then b27_104 F l0 (some v1) l2 else b27_94 F l0
theorem t27_87 {sc : Nat × (Nat → Int32)} {F : Nat} {r : Unit} {h' : xv_H} {l0 : Option Nat} {l1 : Option Nat} {l2 : Int32} {h : xv_H} (e : b27_87 F l0 l1 l2 h = some (r, h')) : xx sc 27 87 [some (va_rf l0), some (va_rf l1), some (.int l2)] [] h (fun v g => v = none ∧ g = h') := by
  unfold b27_87 at e
  refine xo_aload_nQ (w := l1) rfl rfl ?_
  refine d_nn e (fun v1 g e1 => ?_)
  subst g
  replace e := e1
  clear e1
  refine d_virtual_i (av := []) (rest := []) rfl ⟨by decide, by decide⟩ rfl rfl (by simp [xv_fit, va_rf_cat, cat_int, cat_long, cat_ref, cat_null, show xt_mx 29 = 1 from rfl, show xt_lg 29 = [] from rfl]) (by simp [xv_room, va_rf_cat, cat_int, cat_long, cat_ref, cat_null]) (fun x0 h1 e1 => t29 e1) e (fun v2 h e => ?_)
  refine d_if_eq rfl rfl e (fun _ e => ?_) (fun _ e => ?_)
  · exact t27_104 e
  · exact t27_94 e
def b27_77 (F : Nat) (l0 : Option Nat) (l1 : Option Nat) (l2 : Int32) : xm Unit := mb (nn l0) fun v1 => mb (gr 102 v1) fun v2 => mb (nn v2) fun v3 => mb (gi 209 v3) fun v4 => if ¬ v4 = 0 then b27_104 F (some v1) l1 l2 else b27_87 F (some v1) l1 l2
theorem t27_77 {sc : Nat × (Nat → Int32)} {F : Nat} {r : Unit} {h' : xv_H} {l0 : Option Nat} {l1 : Option Nat} {l2 : Int32} {h : xv_H} (e : b27_77 F l0 l1 l2 h = some (r, h')) : xx sc 27 77 [some (va_rf l0), some (va_rf l1), some (.int l2)] [] h (fun v g => v = none ∧ g = h') := by
  unfold b27_77 at e
  refine xo_aload_nQ (w := l0) rfl rfl ?_
  refine d_nn e (fun v1 g e1 => ?_)
  subst g
  replace e := e1
  clear e1
  refine d_getr rfl e (fun v2 e => ?_)
  refine d_nn e (fun v3 g e1 => ?_)
  subst g
  replace e := e1
  clear e1
  refine d_getz rfl e (fun v4 e => ?_)
  refine d_if_ne rfl rfl e (fun _ e => ?_) (fun _ e => ?_)
  · exact t27_104 e
  · exact t27_87 e
def b27_61 (F : Nat) (s0 : Int32) (s1 : Option Nat) (l0 : Option Nat) (l1 : Option Nat) (l2 : Int32) : xm Unit := mb (nn s1) fun v1 => mb (pi_ 210 v1 s0) fun _ => mb (nn l0) fun v2 => mb (gr 102 v2) fun v3 => mb (nn v3) fun v4 => mb (gr 203 v4) fun v5 => mb (cq v5 (some (xv_SB + 4))) fun _ => if ¬ v5 = (some (xv_SB + 4)) then b27_104 F (some v2) l1 l2 else b27_77 F (some v2) l1 l2
theorem t27_61 {sc : Nat × (Nat → Int32)} {F : Nat} {r : Unit} {h' : xv_H} {s0 : Int32} {s1 : Option Nat} {l0 : Option Nat} {l1 : Option Nat} {l2 : Int32} {h : xv_H} (e : b27_61 F s0 s1 l0 l1 l2 h = some (r, h')) : xx sc 27 61 [some (va_rf l0), some (va_rf l1), some (.int l2)] [.int s0, va_rf s1] h (fun v g => v = none ∧ g = h') := by
  unfold b27_61 at e
  refine d_nn e (fun v1 g e1 => ?_)
  subst g
  replace e := e1
  clear e1
  refine d_puti rfl e (fun h e => ?_)
  refine xo_aload_nQ (w := l0) rfl rfl ?_
  refine d_nn e (fun v2 g e1 => ?_)
  subst g
  replace e := e1
  clear e1
  refine d_getr rfl e (fun v3 e => ?_)
  refine d_nn e (fun v4 g e1 => ?_)
  subst g
  replace e := e1
  clear e1
  refine d_getr rfl e (fun v5 e => ?_)
  refine xo_getsV rfl ?_
  refine d_acmp_ne (w1 := v5) (w2 := (some (xv_SB + 4))) rfl rfl e (fun _ e => ?_) (fun _ e => ?_)
  · exact t27_104 e
  · exact t27_77 e
def b27_60 (F : Nat) (s0 : Option Nat) (l0 : Option Nat) (l1 : Option Nat) (l2 : Int32) : xm Unit := b27_61 F (0 : Int32) s0 l0 l1 l2
theorem t27_60 {sc : Nat × (Nat → Int32)} {F : Nat} {r : Unit} {h' : xv_H} {s0 : Option Nat} {l0 : Option Nat} {l1 : Option Nat} {l2 : Int32} {h : xv_H} (e : b27_60 F s0 l0 l1 l2 h = some (r, h')) : xx sc 27 60 [some (va_rf l0), some (va_rf l1), some (.int l2)] [va_rf s0] h (fun v g => v = none ∧ g = h') := by
  unfold b27_60 at e
  refine xo_iconstV (x := 0) rfl (by decide) ?_
  exact t27_61 e
def b27_51 (F : Nat) (s0 : Option Nat) (l0 : Option Nat) (l1 : Option Nat) (l2 : Int32) : xm Unit := mb (nn l1) fun v1 => mb (gr 604 v1) fun v2 => mb (nn v2) fun v3 => mb (li v3 l2) fun v4 => b27_61 F v4 s0 l0 (some v1) l2
theorem t27_51 {sc : Nat × (Nat → Int32)} {F : Nat} {r : Unit} {h' : xv_H} {s0 : Option Nat} {l0 : Option Nat} {l1 : Option Nat} {l2 : Int32} {h : xv_H} (e : b27_51 F s0 l0 l1 l2 h = some (r, h')) : xx sc 27 51 [some (va_rf l0), some (va_rf l1), some (.int l2)] [va_rf s0] h (fun v g => v = none ∧ g = h') := by
  unfold b27_51 at e
  refine xo_aload_nQ (w := l1) rfl rfl ?_
  refine d_nn e (fun v1 g e1 => ?_)
  subst g
  replace e := e1
  clear e1
  refine d_getr rfl e (fun v2 e => ?_)
  refine xo_iload_n rfl rfl ?_
  refine d_nn e (fun v3 g e1 => ?_)
  subst g
  replace e := e1
  clear e1
  refine d_iald rfl e (fun v4 e => ?_)
  refine xo_goto rfl rfl ?_
  exact t27_61 e
def b27_34 (F : Nat) (s0 : Int32) (s1 : Option Nat) (l0 : Option Nat) (l1 : Option Nat) (l2 : Int32) : xm Unit := mb (nn s1) fun v1 => mb (pz 209 v1 s0) fun _ => mb (nn l0) fun v2 => mb (gr 102 v2) fun v3 => mb (gr 102 v2) fun v4 => mb (nn v4) fun v5 => mb (gi 209 v5) fun v6 => if v6 = 0 then b27_60 F v3 (some v2) l1 l2 else b27_51 F v3 (some v2) l1 l2
theorem t27_34 {sc : Nat × (Nat → Int32)} {F : Nat} {r : Unit} {h' : xv_H} {s0 : Int32} {s1 : Option Nat} {l0 : Option Nat} {l1 : Option Nat} {l2 : Int32} {h : xv_H} (e : b27_34 F s0 s1 l0 l1 l2 h = some (r, h')) : xx sc 27 34 [some (va_rf l0), some (va_rf l1), some (.int l2)] [.int s0, va_rf s1] h (fun v g => v = none ∧ g = h') := by
  unfold b27_34 at e
  refine d_nn e (fun v1 g e1 => ?_)
  subst g
  replace e := e1
  clear e1
  refine d_putz rfl e (fun h e => ?_)
  refine xo_aload_nQ (w := l0) rfl rfl ?_
  refine d_nn e (fun v2 g e1 => ?_)
  subst g
  replace e := e1
  clear e1
  refine d_getr rfl e (fun v3 e => ?_)
  refine xo_aload_nQ (w := (some v2)) rfl rfl ?_
  refine d_getr rfl e (fun v4 e => ?_)
  refine d_nn e (fun v5 g e1 => ?_)
  subst g
  replace e := e1
  clear e1
  refine d_getz rfl e (fun v6 e => ?_)
  refine d_if_eq rfl rfl e (fun _ e => ?_) (fun _ e => ?_)
  · exact t27_60 e
  · exact t27_51 e
def b27_33 (F : Nat) (s0 : Option Nat) (l0 : Option Nat) (l1 : Option Nat) (l2 : Int32) : xm Unit := b27_34 F (0 : Int32) s0 l0 l1 l2
theorem t27_33 {sc : Nat × (Nat → Int32)} {F : Nat} {r : Unit} {h' : xv_H} {s0 : Option Nat} {l0 : Option Nat} {l1 : Option Nat} {l2 : Int32} {h : xv_H} (e : b27_33 F s0 l0 l1 l2 h = some (r, h')) : xx sc 27 33 [some (va_rf l0), some (va_rf l1), some (.int l2)] [va_rf s0] h (fun v g => v = none ∧ g = h') := by
  unfold b27_33 at e
  refine xo_iconstV (x := 0) rfl (by decide) ?_
  exact t27_34 e
def b27_29 (F : Nat) (s0 : Option Nat) (l0 : Option Nat) (l1 : Option Nat) (l2 : Int32) : xm Unit := b27_34 F (1 : Int32) s0 l0 l1 l2
theorem t27_29 {sc : Nat × (Nat → Int32)} {F : Nat} {r : Unit} {h' : xv_H} {s0 : Option Nat} {l0 : Option Nat} {l1 : Option Nat} {l2 : Int32} {h : xv_H} (e : b27_29 F s0 l0 l1 l2 h = some (r, h')) : xx sc 27 29 [some (va_rf l0), some (va_rf l1), some (.int l2)] [va_rf s0] h (fun v g => v = none ∧ g = h') := by
  unfold b27_29 at e
  refine xo_iconstV (x := 1) rfl (by decide) ?_
  refine xo_goto rfl rfl ?_
  exact t27_34 e
def b27_0 (F : Nat) (l0 : Option Nat) : xm Unit := mb (nn l0) fun v1 => mb (gr 106 v1) fun v2 => mb (nn v2) fun v3 => mb (gr 701 v3) fun v4 => mb (gr 102 v1) fun v5 => mb (nn v5) fun v6 => mb (gi 204 v6) fun v7 => mb (nn v4) fun v8 => mb (vc 6 v8) fun _ => mb (m28 F v8 v7) fun v9 => mb (gr 102 v1) fun v10 => if v9 = (-1 : Int32) then b27_33 F v10 (some v1) (some v8) v9 else b27_29 F v10 (some v1) (some v8) v9
theorem t27_0 {sc : Nat × (Nat → Int32)} {F : Nat} {r : Unit} {h' : xv_H} {l0 : Option Nat} {d1 d2 : Option Value} {h : xv_H} (e : b27_0 F l0 h = some (r, h')) : xx sc 27 0 [some (va_rf l0), d1, d2] [] h (fun v g => v = none ∧ g = h') := by
  unfold b27_0 at e
  refine xo_aload_nQ (w := l0) rfl rfl ?_
  refine d_nn e (fun v1 g e1 => ?_)
  subst g
  replace e := e1
  clear e1
  refine d_getr rfl e (fun v2 e => ?_)
  refine d_nn e (fun v3 g e1 => ?_)
  subst g
  replace e := e1
  clear e1
  refine d_getr rfl e (fun v4 e => ?_)
  refine xo_astore_nQ (w := v4) rfl (Nat.le_of_ble_eq_true rfl) rfl ?_
  refine xo_aload_nQ (w := v4) rfl rfl ?_
  refine xo_aload_nQ (w := (some v1)) rfl rfl ?_
  refine d_getr rfl e (fun v5 e => ?_)
  refine d_nn e (fun v6 g e1 => ?_)
  subst g
  replace e := e1
  clear e1
  refine d_geti rfl e (fun v7 e => ?_)
  refine d_nn e (fun v8 g e1 => ?_)
  subst g
  replace e := e1
  clear e1
  refine d_virtual_i (av := [.int v7]) (rest := []) rfl ⟨by decide, by decide⟩ rfl rfl (by simp [xv_fit, va_rf_cat, cat_int, cat_long, cat_ref, cat_null, show xt_mx 28 = 3 from rfl, show xt_lg 28 = [] from rfl]) (by simp [xv_room, va_rf_cat, cat_int, cat_long, cat_ref, cat_null]) (fun x0 h1 e1 => t28 e1) e (fun v9 h e => ?_)
  refine xo_istore_n rfl (Nat.le_of_ble_eq_true rfl) rfl ?_
  refine xo_aload_nQ (w := (some v1)) rfl rfl ?_
  refine d_getr rfl e (fun v10 e => ?_)
  refine xo_iload_n rfl rfl ?_
  refine xo_iconstV (x := (-1)) rfl (by decide) ?_
  refine d_icmp_eq rfl rfl e (fun _ e => ?_) (fun _ e => ?_)
  · exact t27_33 e
  · exact t27_29 e
def m27 (F : Nat) (this : Nat) : xm Unit := b27_0 F (some this)
theorem t27 {sc : Nat × (Nat → Int32)} {F : Nat} {this : Nat} {h : xv_H} {r : Unit} {h' : xv_H} (e : m27 F this h = some (r, h')) : xr sc 27 [.ref this] h (fun v g => v = none ∧ g = h') := by
  have e0 : xv_ent (xt_mx 27) [.ref this] = [some (va_rf (some this)), none, none] := by simp [xv_ent, xv_sl, va_rf_cat, cat_int, cat_long, cat_ref, cat_null, va_rf_some, show xt_mx 27 = 3 from rfl]
  unfold xr
  rw [e0]
  exact t27_0 e
-- CellTree$Content.childFor(I)I
def b37_0 (F : Nat) (l0 : Option Nat) (l1 : Int32) : xm Int32 := mb (nn l0) fun v1 => mb (gr 604 v1) fun v2 => mb (vc 6 v1) fun _ => mb (m31 F v1 l1) fun v3 => mb (nn v2) fun v4 => mb (li v4 v3) fun v5 => mr v5
theorem t37_0 {sc : Nat × (Nat → Int32)} {F : Nat} {r : Int32} {h' : xv_H} {l0 : Option Nat} {l1 : Int32} {h : xv_H} (e : b37_0 F l0 l1 h = some (r, h')) : xx sc 37 0 [some (va_rf l0), some (.int l1)] [] h (fun v g => v = some (.int r) ∧ g = h') := by
  unfold b37_0 at e
  refine xo_aload_nQ (w := l0) rfl rfl ?_
  refine d_nn e (fun v1 g e1 => ?_)
  subst g
  replace e := e1
  clear e1
  refine d_getr rfl e (fun v2 e => ?_)
  refine xo_aload_nQ (w := (some v1)) rfl rfl ?_
  refine xo_iload_n rfl rfl ?_
  refine d_virtual_i (av := [.int l1]) (rest := [va_rf v2]) rfl ⟨by decide, by decide⟩ rfl rfl (by simp [xv_fit, va_rf_cat, cat_int, cat_long, cat_ref, cat_null, show xt_mx 31 = 4 from rfl, show xt_lg 31 = [] from rfl]) (by simp [xv_room, va_rf_cat, cat_int, cat_long, cat_ref, cat_null]) (fun x0 h1 e1 => t31 e1) e (fun v3 h e => ?_)
  refine d_nn e (fun v4 g e1 => ?_)
  subst g
  replace e := e1
  clear e1
  refine d_iald rfl e (fun v5 e => ?_)
  exact d_iret rfl e
def m37 (F : Nat) (this : Nat) (p0 : Int32) : xm Int32 := b37_0 F (some this) p0
theorem t37 {sc : Nat × (Nat → Int32)} {F : Nat} {this : Nat} {p0 : Int32} {h : xv_H} {r : Int32} {h' : xv_H} (e : m37 F this p0 h = some (r, h')) : xr sc 37 [.ref this, .int p0] h (fun v g => v = some (.int r) ∧ g = h') := by
  have e0 : xv_ent (xt_mx 37) [.ref this, .int p0] = [some (va_rf (some this)), some (.int p0)] := by simp [xv_ent, xv_sl, va_rf_cat, cat_int, cat_long, cat_ref, cat_null, va_rf_some, show xt_mx 37 = 2 from rfl]
  unfold xr
  rw [e0]
  exact t37_0 e
-- CellTree$Client.walk()V
def b36_115 (F : Nat) (l0 : Option Nat) : xm Unit := mb (nn l0) fun v1 => mb (vc 1 v1) fun _ => mb (m18 F v1) fun _ => mr ()
theorem t36_115 {sc : Nat × (Nat → Int32)} {F : Nat} {r : Unit} {h' : xv_H} {l0 : Option Nat} {d1 : Option Value} {h : xv_H} (e : b36_115 F l0 h = some (r, h')) : xx sc 36 115 [some (va_rf l0), d1] [] h (fun v g => v = none ∧ g = h') := by
  unfold b36_115 at e
  refine xo_aload_nQ (w := l0) rfl rfl ?_
  refine d_nn e (fun v1 g e1 => ?_)
  subst g
  replace e := e1
  clear e1
  refine d_virtual_v (av := []) (rest := []) rfl ⟨by decide, by decide⟩ rfl rfl (by simp [xv_fit, va_rf_cat, cat_int, cat_long, cat_ref, cat_null, show xt_mx 18 = 1 from rfl, show xt_lg 18 = [] from rfl]) (by simp [xv_room, va_rf_cat, cat_int, cat_long, cat_ref, cat_null]) (fun x0 h1 e1 => t18 e1) e (fun _ h e => ?_)
  exact d_ret rfl e
def b36_82 (k0 : Option Nat → xm Unit) (F : Nat) (l0 : Option Nat) (l1 : Option Nat) : xm Unit := mb (nn l0) fun v1 => mb (gr 103 v1) fun v2 => mb (gi 104 v1) fun v3 => mb (nn l1) fun v4 => mb (gr 701 v4) fun v5 => mb (gi 105 v1) fun v6 => mb (nn v5) fun v7 => mb (vc 6 v7) fun _ => mb (m37 F v7 v6) fun v8 => mb (nn v2) fun v9 => mb (si v9 v3 v8) fun _ => mb (gi 104 v1) fun v10 => mb (pi_ 104 v1 (v10 + (1 : Int32))) fun _ => k0 (some v1)
theorem t36_82 {sc : Nat × (Nat → Int32)} {F : Nat} {r : Unit} {h' : xv_H} {k0 : Option Nat → xm Unit} (hk0 : ∀ (l0 : Option Nat) (d1 : Option Value) (h : xv_H), k0 l0 h = some (r, h') → xx sc 36 0 [some (va_rf l0), d1] [] h (fun v g => v = none ∧ g = h')) {l0 : Option Nat} {l1 : Option Nat} {h : xv_H} (e : b36_82 k0 F l0 l1 h = some (r, h')) : xx sc 36 82 [some (va_rf l0), some (va_rf l1)] [] h (fun v g => v = none ∧ g = h') := by
  unfold b36_82 at e
  refine xo_aload_nQ (w := l0) rfl rfl ?_
  refine d_nn e (fun v1 g e1 => ?_)
  subst g
  replace e := e1
  clear e1
  refine d_getr rfl e (fun v2 e => ?_)
  refine xo_aload_nQ (w := (some v1)) rfl rfl ?_
  refine d_geti rfl e (fun v3 e => ?_)
  refine xo_aload_nQ (w := l1) rfl rfl ?_
  refine d_nn e (fun v4 g e1 => ?_)
  subst g
  replace e := e1
  clear e1
  refine d_getr rfl e (fun v5 e => ?_)
  refine xo_aload_nQ (w := (some v1)) rfl rfl ?_
  refine d_geti rfl e (fun v6 e => ?_)
  refine d_nn e (fun v7 g e1 => ?_)
  subst g
  replace e := e1
  clear e1
  refine d_virtual_i (av := [.int v6]) (rest := [.int v3, va_rf v2]) rfl ⟨by decide, by decide⟩ rfl rfl (by simp [xv_fit, va_rf_cat, cat_int, cat_long, cat_ref, cat_null, show xt_mx 37 = 2 from rfl, show xt_lg 37 = [] from rfl]) (by simp [xv_room, va_rf_cat, cat_int, cat_long, cat_ref, cat_null]) (fun x0 h1 e1 => t37 e1) e (fun v8 h e => ?_)
  refine d_nn e (fun v9 g e1 => ?_)
  subst g
  replace e := e1
  clear e1
  refine d_iast rfl e (fun h e => ?_)
  refine xo_aload_nQ (w := (some v1)) rfl rfl ?_
  refine xo_dup rfl (by first | rfl | exact va_rf_cat _) ?_
  refine d_geti rfl e (fun v10 e => ?_)
  refine xo_iconstV (x := 1) rfl (by decide) ?_
  refine xo_iadd rfl ?_
  refine d_puti rfl e (fun h e => ?_)
  refine xo_goto rfl rfl ?_
  exact hk0 _ _ _ e
def b36_69 (k0 : Option Nat → xm Unit) (F : Nat) (l0 : Option Nat) (l1 : Option Nat) : xm Unit := mb (nn l0) fun v1 => mb (pr 106 v1 l1) fun _ => mb (pr 109 v1 (some (xv_SB + 18))) fun _ => mr ()
theorem t36_69 {sc : Nat × (Nat → Int32)} {F : Nat} {r : Unit} {h' : xv_H} {k0 : Option Nat → xm Unit} (hk0 : ∀ (l0 : Option Nat) (d1 : Option Value) (h : xv_H), k0 l0 h = some (r, h') → xx sc 36 0 [some (va_rf l0), d1] [] h (fun v g => v = none ∧ g = h')) {l0 : Option Nat} {l1 : Option Nat} {h : xv_H} (e : b36_69 k0 F l0 l1 h = some (r, h')) : xx sc 36 69 [some (va_rf l0), some (va_rf l1)] [] h (fun v g => v = none ∧ g = h') := by
  unfold b36_69 at e
  refine xo_aload_nQ (w := l0) rfl rfl ?_
  refine xo_aload_nQ (w := l1) rfl rfl ?_
  refine d_nn e (fun v1 g e1 => ?_)
  subst g
  replace e := e1
  clear e1
  refine d_putr (w := l1) rfl e (fun h e => ?_)
  refine xo_aload_nQ (w := (some v1)) rfl rfl ?_
  refine xo_getsV rfl ?_
  refine d_putr (w := (some (xv_SB + 18))) rfl e (fun h e => ?_)
  exact d_ret rfl e
def b36_59 (k0 : Option Nat → xm Unit) (F : Nat) (l0 : Option Nat) (l1 : Option Nat) : xm Unit := mb (nn l1) fun v1 => mb (gr 701 v1) fun v2 => mb (nn v2) fun v3 => mb (vc 6 v3) fun _ => mb (m29 F v3) fun v4 => if v4 = 0 then b36_82 k0 F l0 (some v1) else b36_69 k0 F l0 (some v1)
theorem t36_59 {sc : Nat × (Nat → Int32)} {F : Nat} {r : Unit} {h' : xv_H} {k0 : Option Nat → xm Unit} (hk0 : ∀ (l0 : Option Nat) (d1 : Option Value) (h : xv_H), k0 l0 h = some (r, h') → xx sc 36 0 [some (va_rf l0), d1] [] h (fun v g => v = none ∧ g = h')) {l0 : Option Nat} {l1 : Option Nat} {h : xv_H} (e : b36_59 k0 F l0 l1 h = some (r, h')) : xx sc 36 59 [some (va_rf l0), some (va_rf l1)] [] h (fun v g => v = none ∧ g = h') := by
  unfold b36_59 at e
  refine xo_aload_nQ (w := l1) rfl rfl ?_
  refine d_nn e (fun v1 g e1 => ?_)
  subst g
  replace e := e1
  clear e1
  refine d_getr rfl e (fun v2 e => ?_)
  refine d_nn e (fun v3 g e1 => ?_)
  subst g
  replace e := e1
  clear e1
  refine d_virtual_i (av := []) (rest := []) rfl ⟨by decide, by decide⟩ rfl rfl (by simp [xv_fit, va_rf_cat, cat_int, cat_long, cat_ref, cat_null, show xt_mx 29 = 1 from rfl, show xt_lg 29 = [] from rfl]) (by simp [xv_room, va_rf_cat, cat_int, cat_long, cat_ref, cat_null]) (fun x0 h1 e1 => t29 e1) e (fun v4 h e => ?_)
  refine d_if_eq rfl rfl e (fun _ e => ?_) (fun _ e => ?_)
  · exact t36_82 hk0 e
  · exact t36_69 hk0 e
def b36_46 (k0 : Option Nat → xm Unit) (F : Nat) (l0 : Option Nat) (l1 : Option Nat) : xm Unit := mb (nn l0) fun v1 => mb (gr 102 v1) fun v2 => mb (nn v2) fun v3 => mb (gr 203 v3) fun v4 => mb (cq v4 (some (xv_SB + 4))) fun _ => if ¬ v4 = (some (xv_SB + 4)) then b36_82 k0 F (some v1) l1 else b36_59 k0 F (some v1) l1
theorem t36_46 {sc : Nat × (Nat → Int32)} {F : Nat} {r : Unit} {h' : xv_H} {k0 : Option Nat → xm Unit} (hk0 : ∀ (l0 : Option Nat) (d1 : Option Value) (h : xv_H), k0 l0 h = some (r, h') → xx sc 36 0 [some (va_rf l0), d1] [] h (fun v g => v = none ∧ g = h')) {l0 : Option Nat} {l1 : Option Nat} {h : xv_H} (e : b36_46 k0 F l0 l1 h = some (r, h')) : xx sc 36 46 [some (va_rf l0), some (va_rf l1)] [] h (fun v g => v = none ∧ g = h') := by
  unfold b36_46 at e
  refine xo_aload_nQ (w := l0) rfl rfl ?_
  refine d_nn e (fun v1 g e1 => ?_)
  subst g
  replace e := e1
  clear e1
  refine d_getr rfl e (fun v2 e => ?_)
  refine d_nn e (fun v3 g e1 => ?_)
  subst g
  replace e := e1
  clear e1
  refine d_getr rfl e (fun v4 e => ?_)
  refine xo_getsV rfl ?_
  refine d_acmp_ne (w1 := v4) (w2 := (some (xv_SB + 4))) rfl rfl e (fun _ e => ?_) (fun _ e => ?_)
  · exact t36_82 hk0 e
  · exact t36_59 hk0 e
def b36_26 (k0 : Option Nat → xm Unit) (F : Nat) (l0 : Option Nat) : xm Unit := mb (nn l0) fun v1 => mb (vc 1 v1) fun _ => mb (m23 F v1 (some (xv_SB + 12))) fun v2 => mb (vc 1 v1) fun _ => mb (m19 F v1) fun v3 => mb (nn v2) fun v4 => mb (vc 4 v4) fun _ => mb (m25 F v4 (some (xv_SB + 7)) v3 (0 : Int32) none) fun _ => mr ()
theorem t36_26 {sc : Nat × (Nat → Int32)} {F : Nat} {r : Unit} {h' : xv_H} {k0 : Option Nat → xm Unit} (hk0 : ∀ (l0 : Option Nat) (d1 : Option Value) (h : xv_H), k0 l0 h = some (r, h') → xx sc 36 0 [some (va_rf l0), d1] [] h (fun v g => v = none ∧ g = h')) {l0 : Option Nat} {d1 : Option Value} {h : xv_H} (e : b36_26 k0 F l0 h = some (r, h')) : xx sc 36 26 [some (va_rf l0), d1] [] h (fun v g => v = none ∧ g = h') := by
  unfold b36_26 at e
  refine xo_aload_nQ (w := l0) rfl rfl ?_
  refine xo_getsV rfl ?_
  refine d_nn e (fun v1 g e1 => ?_)
  subst g
  replace e := e1
  clear e1
  refine d_virtual_a (av := [va_rf (some (xv_SB + 12))]) (rest := []) rfl ⟨by decide, by decide⟩ rfl rfl (by simp [xv_fit, va_rf_cat, cat_int, cat_long, cat_ref, cat_null, show xt_mx 23 = 2 from rfl, show xt_lg 23 = [] from rfl]) (by simp [xv_room, va_rf_cat, cat_int, cat_long, cat_ref, cat_null]) (fun x0 h1 e1 => t23 e1) e (fun v2 h e => ?_)
  refine xo_getsV rfl ?_
  refine xo_aload_nQ (w := (some v1)) rfl rfl ?_
  refine d_virtual_i (av := []) (rest := [va_rf (some (xv_SB + 7)), va_rf v2]) rfl ⟨by decide, by decide⟩ rfl rfl (by simp [xv_fit, va_rf_cat, cat_int, cat_long, cat_ref, cat_null, show xt_mx 19 = 1 from rfl, show xt_lg 19 = [] from rfl]) (by simp [xv_room, va_rf_cat, cat_int, cat_long, cat_ref, cat_null]) (fun x0 h1 e1 => t19 e1) e (fun v3 h e => ?_)
  refine xo_iconstV (x := 0) rfl (by decide) ?_
  refine xo_nullV rfl ?_
  refine d_nn e (fun v4 g e1 => ?_)
  subst g
  replace e := e1
  clear e1
  refine d_virtual_v (av := [va_rf (some (xv_SB + 7)), .int v3, .int (0 : Int32), va_rf none]) (rest := []) rfl ⟨by decide, by decide⟩ rfl rfl (by simp [xv_fit, va_rf_cat, cat_int, cat_long, cat_ref, cat_null, show xt_mx 25 = 5 from rfl, show xt_lg 25 = [] from rfl]) (by simp [xv_room, va_rf_cat, cat_int, cat_long, cat_ref, cat_null]) (fun x0 h1 e1 => t25 e1) e (fun _ h e => ?_)
  exact d_ret rfl e
def b36_12 (k0 : Option Nat → xm Unit) (F : Nat) (l0 : Option Nat) : xm Unit := mb (nn l0) fun v1 => mb (gr 101 v1) fun v2 => mb (vc 1 v1) fun _ => mb (m19 F v1) fun v3 => mb (nn v2) fun v4 => mb (lr 108 v4 v3) fun v5 => if ¬ v5 = none then b36_46 k0 F (some v1) v5 else b36_26 k0 F (some v1)
theorem t36_12 {sc : Nat × (Nat → Int32)} {F : Nat} {r : Unit} {h' : xv_H} {k0 : Option Nat → xm Unit} (hk0 : ∀ (l0 : Option Nat) (d1 : Option Value) (h : xv_H), k0 l0 h = some (r, h') → xx sc 36 0 [some (va_rf l0), d1] [] h (fun v g => v = none ∧ g = h')) {l0 : Option Nat} {d1 : Option Value} {h : xv_H} (e : b36_12 k0 F l0 h = some (r, h')) : xx sc 36 12 [some (va_rf l0), d1] [] h (fun v g => v = none ∧ g = h') := by
  unfold b36_12 at e
  refine xo_aload_nQ (w := l0) rfl rfl ?_
  refine d_nn e (fun v1 g e1 => ?_)
  subst g
  replace e := e1
  clear e1
  refine d_getr rfl e (fun v2 e => ?_)
  refine xo_aload_nQ (w := (some v1)) rfl rfl ?_
  refine d_virtual_i (av := []) (rest := [va_rf v2]) rfl ⟨by decide, by decide⟩ rfl rfl (by simp [xv_fit, va_rf_cat, cat_int, cat_long, cat_ref, cat_null, show xt_mx 19 = 1 from rfl, show xt_lg 19 = [] from rfl]) (by simp [xv_room, va_rf_cat, cat_int, cat_long, cat_ref, cat_null]) (fun x0 h1 e1 => t19 e1) e (fun v3 h e => ?_)
  refine d_nn e (fun v4 g e1 => ?_)
  subst g
  replace e := e1
  clear e1
  refine d_aald rfl e (fun v5 e => ?_)
  refine xo_astore_nQ (w := v5) rfl (Nat.le_of_ble_eq_true rfl) rfl ?_
  refine xo_aload_nQ (w := v5) rfl rfl ?_
  refine d_ifnonnull (w := v5) rfl rfl e (fun _ e => ?_) (fun _ e => ?_)
  · exact t36_46 hk0 e
  · exact t36_26 hk0 e
def b36_0 (F : Nat) : Nat → Option Nat → xm Unit
  | 0, _ => fun _ => none
  | f + 1, l0 => mb (nn l0) fun v1 => mb (gi 104 v1) fun v2 => mb (gr 103 v1) fun v3 => mb (nn v3) fun v4 => mb (len 100 0 v4) fun v5 => if v5 ≤ v2 then b36_115 F (some v1) else b36_12 (b36_0 F f) F (some v1)
theorem t36_0 {sc : Nat × (Nat → Int32)} {F : Nat} {r : Unit} {h' : xv_H} : ∀ (f : Nat) (l0 : Option Nat) (d1 : Option Value) (h : xv_H), b36_0 F f l0 h = some (r, h') → xx sc 36 0 [some (va_rf l0), d1] [] h (fun v g => v = none ∧ g = h') := by
  intro f
  induction f with
  | zero => intro l0 d1 h e; cases e
  | succ f ih =>
    intro l0 d1 h e
    unfold b36_0 at e
    refine xo_aload_nQ (w := l0) rfl rfl ?_
    refine d_nn e (fun v1 g e1 => ?_)
    subst g
    replace e := e1
    clear e1
    refine d_geti rfl e (fun v2 e => ?_)
    refine xo_aload_nQ (w := (some v1)) rfl rfl ?_
    refine d_getr rfl e (fun v3 e => ?_)
    refine d_nn e (fun v4 g e1 => ?_)
    subst g
    replace e := e1
    clear e1
    refine d_len rfl e (fun v5 e => ?_)
    refine d_icmp_ge rfl rfl e (fun _ e => ?_) (fun _ e => ?_)
    · exact t36_115 e
    · exact t36_12 (fun a0 a1 h e => ih a0 a1 h e) e
def m36 (F : Nat) (this : Nat) : xm Unit := b36_0 F F (some this)
theorem t36 {sc : Nat × (Nat → Int32)} {F : Nat} {this : Nat} {h : xv_H} {r : Unit} {h' : xv_H} (e : m36 F this h = some (r, h')) : xr sc 36 [.ref this] h (fun v g => v = none ∧ g = h') := by
  have e0 : xv_ent (xt_mx 36) [.ref this] = [some (va_rf (some this)), none] := by simp [xv_ent, xv_sl, va_rf_cat, cat_int, cat_long, cat_ref, cat_null, va_rf_some, show xt_mx 36 = 2 from rfl]
  unfold xr
  rw [e0]
  exact t36_0 F _ _ _ e
-- CellTree$Client.newAddress()I
def b40_25 (F : Nat) (s0 : Int32) (s1 : Option Nat) (l1 : Int32) : xm Int32 := mb (nn s1) fun v1 => mb (pi_ 108 v1 s0) fun _ => mr l1
theorem t40_25 {sc : Nat × (Nat → Int32)} {F : Nat} {r : Int32} {h' : xv_H} {s0 : Int32} {s1 : Option Nat} {l1 : Int32} {d0 : Option Value} {h : xv_H} (e : b40_25 F s0 s1 l1 h = some (r, h')) : xx sc 40 25 [d0, some (.int l1)] [.int s0, va_rf s1] h (fun v g => v = some (.int r) ∧ g = h') := by
  unfold b40_25 at e
  refine d_nn e (fun v1 g e1 => ?_)
  subst g
  replace e := e1
  clear e1
  refine d_puti rfl e (fun h e => ?_)
  refine xo_iload_n rfl rfl ?_
  exact d_iret rfl e
def b40_19 (F : Nat) (s0 : Option Nat) (l0 : Option Nat) (l1 : Int32) : xm Int32 := mb (nn l0) fun v1 => mb (gi 108 v1) fun v2 => b40_25 F (v2 + (1 : Int32)) s0 l1
theorem t40_19 {sc : Nat × (Nat → Int32)} {F : Nat} {r : Int32} {h' : xv_H} {s0 : Option Nat} {l0 : Option Nat} {l1 : Int32} {h : xv_H} (e : b40_19 F s0 l0 l1 h = some (r, h')) : xx sc 40 19 [some (va_rf l0), some (.int l1)] [va_rf s0] h (fun v g => v = some (.int r) ∧ g = h') := by
  unfold b40_19 at e
  refine xo_aload_nQ (w := l0) rfl rfl ?_
  refine d_nn e (fun v1 g e1 => ?_)
  subst g
  replace e := e1
  clear e1
  refine d_geti rfl e (fun v2 e => ?_)
  refine xo_iconstV (x := 1) rfl (by decide) ?_
  refine xo_iadd rfl ?_
  exact t40_25 e
def b40_15 (F : Nat) (s0 : Option Nat) (l1 : Int32) : xm Int32 := b40_25 F (1 : Int32) s0 l1
theorem t40_15 {sc : Nat × (Nat → Int32)} {F : Nat} {r : Int32} {h' : xv_H} {s0 : Option Nat} {l1 : Int32} {d0 : Option Value} {h : xv_H} (e : b40_15 F s0 l1 h = some (r, h')) : xx sc 40 15 [d0, some (.int l1)] [va_rf s0] h (fun v g => v = some (.int r) ∧ g = h') := by
  unfold b40_15 at e
  refine xo_iconstV (x := 1) rfl (by decide) ?_
  refine xo_goto rfl rfl ?_
  exact t40_25 e
def b40_0 (F : Nat) (l0 : Option Nat) : xm Int32 := mb (nn l0) fun v1 => mb (gi 108 v1) fun v2 => mb (gi 108 v1) fun v3 => if v3 < (23 : Int32) then b40_19 F (some v1) (some v1) v2 else b40_15 F (some v1) v2
theorem t40_0 {sc : Nat × (Nat → Int32)} {F : Nat} {r : Int32} {h' : xv_H} {l0 : Option Nat} {d1 : Option Value} {h : xv_H} (e : b40_0 F l0 h = some (r, h')) : xx sc 40 0 [some (va_rf l0), d1] [] h (fun v g => v = some (.int r) ∧ g = h') := by
  unfold b40_0 at e
  refine xo_aload_nQ (w := l0) rfl rfl ?_
  refine d_nn e (fun v1 g e1 => ?_)
  subst g
  replace e := e1
  clear e1
  refine d_geti rfl e (fun v2 e => ?_)
  refine xo_istore_n rfl (Nat.le_of_ble_eq_true rfl) rfl ?_
  refine xo_aload_nQ (w := (some v1)) rfl rfl ?_
  refine xo_aload_nQ (w := (some v1)) rfl rfl ?_
  refine d_geti rfl e (fun v3 e => ?_)
  refine xo_bipushV (x := 23) rfl (by decide) ?_
  refine d_icmp_lt rfl rfl e (fun _ e => ?_) (fun _ e => ?_)
  · exact t40_19 e
  · exact t40_15 e
def m40 (F : Nat) (this : Nat) : xm Int32 := b40_0 F (some this)
theorem t40 {sc : Nat × (Nat → Int32)} {F : Nat} {this : Nat} {h : xv_H} {r : Int32} {h' : xv_H} (e : m40 F this h = some (r, h')) : xr sc 40 [.ref this] h (fun v g => v = some (.int r) ∧ g = h') := by
  have e0 : xv_ent (xt_mx 40) [.ref this] = [some (va_rf (some this)), none] := by simp [xv_ent, xv_sl, va_rf_cat, cat_int, cat_long, cat_ref, cat_null, va_rf_some, show xt_mx 40 = 2 from rfl]
  unfold xr
  rw [e0]
  exact t40_0 e
