-- CellTreeModel.drop(I)Z
def b128_147 (F : Nat) : xm Int32 := mb (bz (1 : Int32)) fun _ => mr (1 : Int32)
theorem t128_147 {sc : Nat × (Nat → Int32)} {F : Nat} {r : Int32} {h' : xv_H} {d0 d1 d2 d3 : Option Value} {h : xv_H} (e : b128_147 F h = some (r, h')) : xx sc 128 147 [d0, d1, d2, d3] [] h (fun v g => v = some (.int r) ∧ g = h') := by
  unfold b128_147 at e
  refine xo_iconstV (x := 1) rfl (by decide) ?_
  exact d_zret rfl e
def b128_141 (k28 : Option Nat → Int32 → xm Int32) (F : Nat) (l0 : Option Nat) (l2 : Int32) : xm Int32 := k28 l0 (l2 + (1 : Int32))
theorem t128_141 {sc : Nat × (Nat → Int32)} {F : Nat} {r : Int32} {h' : xv_H} {k28 : Option Nat → Int32 → xm Int32} (hk28 : ∀ (l0 : Option Nat) (l2 : Int32) (d1 d3 : Option Value) (h : xv_H), k28 l0 l2 h = some (r, h') → xx sc 128 28 [some (va_rf l0), d1, some (.int l2), d3] [] h (fun v g => v = some (.int r) ∧ g = h')) {l0 : Option Nat} {l2 : Int32} {d1 d3 : Option Value} {h : xv_H} (e : b128_141 k28 F l0 l2 h = some (r, h')) : xx sc 128 141 [some (va_rf l0), d1, some (.int l2), d3] [] h (fun v g => v = some (.int r) ∧ g = h') := by
  unfold b128_141 at e
  refine xo_iincV (z := 1) rfl (by decide) rfl (Nat.le_of_ble_eq_true rfl) rfl ?_
  refine xo_goto rfl rfl ?_
  exact hk28 _ _ _ _ _ e
def b128_113 (k28 : Option Nat → Int32 → xm Int32) (k108 : Option Nat → Int32 → Int32 → xm Int32) (F : Nat) (l0 : Option Nat) (l2 : Int32) (l3 : Int32) : xm Int32 := mb (nn l0) fun v1 => mb (gr 921 v1) fun v2 => mb (gr 921 v1) fun v3 => mb (nn v3) fun v4 => mb (li v4 ((((3 : Int32) * l2) + (3 : Int32)) + l3)) fun v5 => mb (nn v2) fun v6 => mb (si v6 (((3 : Int32) * l2) + l3) v5) fun _ => k108 (some v1) l2 (l3 + (1 : Int32))
theorem t128_113 {sc : Nat × (Nat → Int32)} {F : Nat} {r : Int32} {h' : xv_H} {k28 : Option Nat → Int32 → xm Int32} {k108 : Option Nat → Int32 → Int32 → xm Int32} (hk28 : ∀ (l0 : Option Nat) (l2 : Int32) (d1 d3 : Option Value) (h : xv_H), k28 l0 l2 h = some (r, h') → xx sc 128 28 [some (va_rf l0), d1, some (.int l2), d3] [] h (fun v g => v = some (.int r) ∧ g = h')) (hk108 : ∀ (l0 : Option Nat) (l2 : Int32) (l3 : Int32) (d1 : Option Value) (h : xv_H), k108 l0 l2 l3 h = some (r, h') → xx sc 128 108 [some (va_rf l0), d1, some (.int l2), some (.int l3)] [] h (fun v g => v = some (.int r) ∧ g = h')) {l0 : Option Nat} {l2 : Int32} {l3 : Int32} {d1 : Option Value} {h : xv_H} (e : b128_113 k28 k108 F l0 l2 l3 h = some (r, h')) : xx sc 128 113 [some (va_rf l0), d1, some (.int l2), some (.int l3)] [] h (fun v g => v = some (.int r) ∧ g = h') := by
  unfold b128_113 at e
  refine xo_aload_nQ (w := l0) rfl rfl ?_
  refine d_nn e (fun v1 g e1 => ?_)
  subst g
  replace e := e1
  clear e1
  refine d_getr rfl e (fun v2 e => ?_)
  refine xo_iconstV (x := 3) rfl (by decide) ?_
  refine xo_iload_n rfl rfl ?_
  refine xo_imul rfl ?_
  refine xo_iload_n rfl rfl ?_
  refine xo_iadd rfl ?_
  refine xo_aload_nQ (w := (some v1)) rfl rfl ?_
  refine d_getr rfl e (fun v3 e => ?_)
  refine xo_iconstV (x := 3) rfl (by decide) ?_
  refine xo_iload_n rfl rfl ?_
  refine xo_imul rfl ?_
  refine xo_iconstV (x := 3) rfl (by decide) ?_
  refine xo_iadd rfl ?_
  refine xo_iload_n rfl rfl ?_
  refine xo_iadd rfl ?_
  refine d_nn e (fun v4 g e1 => ?_)
  subst g
  replace e := e1
  clear e1
  refine d_iald rfl e (fun v5 e => ?_)
  refine d_nn e (fun v6 g e1 => ?_)
  subst g
  replace e := e1
  clear e1
  refine d_iast rfl e (fun h e => ?_)
  refine xo_iincV (z := 1) rfl (by decide) rfl (Nat.le_of_ble_eq_true rfl) rfl ?_
  refine xo_goto rfl rfl ?_
  exact hk108 _ _ _ _ _ e
def b128_108 (k28 : Option Nat → Int32 → xm Int32) (F : Nat) : Nat → Option Nat → Int32 → Int32 → xm Int32
  | 0, _, _, _ => fun _ => none
  | f + 1, l0, l2, l3 => if (3 : Int32) ≤ l3 then b128_141 k28 F l0 l2 else b128_113 k28 (b128_108 k28 F f) F l0 l2 l3
theorem t128_108 {sc : Nat × (Nat → Int32)} {F : Nat} {r : Int32} {h' : xv_H} {k28 : Option Nat → Int32 → xm Int32} (hk28 : ∀ (l0 : Option Nat) (l2 : Int32) (d1 d3 : Option Value) (h : xv_H), k28 l0 l2 h = some (r, h') → xx sc 128 28 [some (va_rf l0), d1, some (.int l2), d3] [] h (fun v g => v = some (.int r) ∧ g = h')) : ∀ (f : Nat) (l0 : Option Nat) (l2 : Int32) (l3 : Int32) (d1 : Option Value) (h : xv_H), b128_108 k28 F f l0 l2 l3 h = some (r, h') → xx sc 128 108 [some (va_rf l0), d1, some (.int l2), some (.int l3)] [] h (fun v g => v = some (.int r) ∧ g = h') := by
  intro f
  induction f with
  | zero => intro l0 l2 l3 d1 h e; cases e
  | succ f ih =>
    intro l0 l2 l3 d1 h e
    unfold b128_108 at e
    refine xo_iload_n rfl rfl ?_
    refine xo_iconstV (x := 3) rfl (by decide) ?_
    refine d_icmp_ge rfl rfl e (fun _ e => ?_) (fun _ e => ?_)
    · exact t128_141 hk28 e
    · exact t128_113 hk28 (fun a0 a1 a2 a3 h e => ih a0 a1 a2 a3 h e) e
def b128_36 (k28 : Option Nat → Int32 → xm Int32) (F : Nat) (l0 : Option Nat) (l2 : Int32) : xm Int32 := mb (nn l0) fun v1 => mb (gr 916 v1) fun v2 => mb (gr 916 v1) fun v3 => mb (nn v3) fun v4 => mb (li v4 (l2 + (1 : Int32))) fun v5 => mb (nn v2) fun v6 => mb (si v6 l2 v5) fun _ => mb (gr 917 v1) fun v7 => mb (gr 917 v1) fun v8 => mb (nn v8) fun v9 => mb (li v9 (l2 + (1 : Int32))) fun v10 => mb (nn v7) fun v11 => mb (si v11 l2 v10) fun _ => mb (gr 918 v1) fun v12 => mb (gr 918 v1) fun v13 => mb (nn v13) fun v14 => mb (li v14 (l2 + (1 : Int32))) fun v15 => mb (nn v12) fun v16 => mb (si v16 l2 v15) fun _ => mb (gr 919 v1) fun v17 => mb (gr 919 v1) fun v18 => mb (nn v18) fun v19 => mb (li v19 (l2 + (1 : Int32))) fun v20 => mb (nn v17) fun v21 => mb (si v21 l2 v20) fun _ => mb (gr 920 v1) fun v22 => mb (gr 920 v1) fun v23 => mb (nn v23) fun v24 => mb (ll v24 (l2 + (1 : Int32))) fun v25 => mb (nn v22) fun v26 => mb (sl v26 l2 v25) fun _ => b128_108 k28 F F (some v1) l2 (0 : Int32)
theorem t128_36 {sc : Nat × (Nat → Int32)} {F : Nat} {r : Int32} {h' : xv_H} {k28 : Option Nat → Int32 → xm Int32} (hk28 : ∀ (l0 : Option Nat) (l2 : Int32) (d1 d3 : Option Value) (h : xv_H), k28 l0 l2 h = some (r, h') → xx sc 128 28 [some (va_rf l0), d1, some (.int l2), d3] [] h (fun v g => v = some (.int r) ∧ g = h')) {l0 : Option Nat} {l2 : Int32} {d1 d3 : Option Value} {h : xv_H} (e : b128_36 k28 F l0 l2 h = some (r, h')) : xx sc 128 36 [some (va_rf l0), d1, some (.int l2), d3] [] h (fun v g => v = some (.int r) ∧ g = h') := by
  unfold b128_36 at e
  refine xo_aload_nQ (w := l0) rfl rfl ?_
  refine d_nn e (fun v1 g e1 => ?_)
  subst g
  replace e := e1
  clear e1
  refine d_getr rfl e (fun v2 e => ?_)
  refine xo_iload_n rfl rfl ?_
  refine xo_aload_nQ (w := (some v1)) rfl rfl ?_
  refine d_getr rfl e (fun v3 e => ?_)
  refine xo_iload_n rfl rfl ?_
  refine xo_iconstV (x := 1) rfl (by decide) ?_
  refine xo_iadd rfl ?_
  refine d_nn e (fun v4 g e1 => ?_)
  subst g
  replace e := e1
  clear e1
  refine d_iald rfl e (fun v5 e => ?_)
  refine d_nn e (fun v6 g e1 => ?_)
  subst g
  replace e := e1
  clear e1
  refine d_iast rfl e (fun h e => ?_)
  refine xo_aload_nQ (w := (some v1)) rfl rfl ?_
  refine d_getr rfl e (fun v7 e => ?_)
  refine xo_iload_n rfl rfl ?_
  refine xo_aload_nQ (w := (some v1)) rfl rfl ?_
  refine d_getr rfl e (fun v8 e => ?_)
  refine xo_iload_n rfl rfl ?_
  refine xo_iconstV (x := 1) rfl (by decide) ?_
  refine xo_iadd rfl ?_
  refine d_nn e (fun v9 g e1 => ?_)
  subst g
  replace e := e1
  clear e1
  refine d_iald rfl e (fun v10 e => ?_)
  refine d_nn e (fun v11 g e1 => ?_)
  subst g
  replace e := e1
  clear e1
  refine d_iast rfl e (fun h e => ?_)
  refine xo_aload_nQ (w := (some v1)) rfl rfl ?_
  refine d_getr rfl e (fun v12 e => ?_)
  refine xo_iload_n rfl rfl ?_
  refine xo_aload_nQ (w := (some v1)) rfl rfl ?_
  refine d_getr rfl e (fun v13 e => ?_)
  refine xo_iload_n rfl rfl ?_
  refine xo_iconstV (x := 1) rfl (by decide) ?_
  refine xo_iadd rfl ?_
  refine d_nn e (fun v14 g e1 => ?_)
  subst g
  replace e := e1
  clear e1
  refine d_iald rfl e (fun v15 e => ?_)
  refine d_nn e (fun v16 g e1 => ?_)
  subst g
  replace e := e1
  clear e1
  refine d_iast rfl e (fun h e => ?_)
  refine xo_aload_nQ (w := (some v1)) rfl rfl ?_
  refine d_getr rfl e (fun v17 e => ?_)
  refine xo_iload_n rfl rfl ?_
  refine xo_aload_nQ (w := (some v1)) rfl rfl ?_
  refine d_getr rfl e (fun v18 e => ?_)
  refine xo_iload_n rfl rfl ?_
  refine xo_iconstV (x := 1) rfl (by decide) ?_
  refine xo_iadd rfl ?_
  refine d_nn e (fun v19 g e1 => ?_)
  subst g
  replace e := e1
  clear e1
  refine d_iald rfl e (fun v20 e => ?_)
  refine d_nn e (fun v21 g e1 => ?_)
  subst g
  replace e := e1
  clear e1
  refine d_iast rfl e (fun h e => ?_)
  refine xo_aload_nQ (w := (some v1)) rfl rfl ?_
  refine d_getr rfl e (fun v22 e => ?_)
  refine xo_iload_n rfl rfl ?_
  refine xo_aload_nQ (w := (some v1)) rfl rfl ?_
  refine d_getr rfl e (fun v23 e => ?_)
  refine xo_iload_n rfl rfl ?_
  refine xo_iconstV (x := 1) rfl (by decide) ?_
  refine xo_iadd rfl ?_
  refine d_nn e (fun v24 g e1 => ?_)
  subst g
  replace e := e1
  clear e1
  refine d_lald rfl e (fun v25 e => ?_)
  refine d_nn e (fun v26 g e1 => ?_)
  subst g
  replace e := e1
  clear e1
  refine d_last rfl e (fun h e => ?_)
  refine xo_iconstV (x := 0) rfl (by decide) ?_
  refine xo_istore_n rfl (Nat.le_of_ble_eq_true rfl) rfl ?_
  exact t128_108 hk28 F _ _ _ _ _ e
def b128_28 (F : Nat) : Nat → Option Nat → Int32 → xm Int32
  | 0, _, _ => fun _ => none
  | f + 1, l0, l2 => mb (nn l0) fun v1 => mb (gi 915 v1) fun v2 => if v2 ≤ l2 then b128_147 F else b128_36 (b128_28 F f) F (some v1) l2
theorem t128_28 {sc : Nat × (Nat → Int32)} {F : Nat} {r : Int32} {h' : xv_H} : ∀ (f : Nat) (l0 : Option Nat) (l2 : Int32) (d1 d3 : Option Value) (h : xv_H), b128_28 F f l0 l2 h = some (r, h') → xx sc 128 28 [some (va_rf l0), d1, some (.int l2), d3] [] h (fun v g => v = some (.int r) ∧ g = h') := by
  intro f
  induction f with
  | zero => intro l0 l2 d1 d3 h e; cases e
  | succ f ih =>
    intro l0 l2 d1 d3 h e
    unfold b128_28 at e
    refine xo_iload_n rfl rfl ?_
    refine xo_aload_nQ (w := l0) rfl rfl ?_
    refine d_nn e (fun v1 g e1 => ?_)
    subst g
    replace e := e1
    clear e1
    refine d_geti rfl e (fun v2 e => ?_)
    refine d_icmp_ge rfl rfl e (fun _ e => ?_) (fun _ e => ?_)
    · exact t128_147 e
    · exact t128_36 (fun a0 a1 a2 a3 h e => ih a0 a1 a2 a3 h e) e
def b128_16 (F : Nat) (l0 : Option Nat) (l1 : Int32) : xm Int32 := mb (nn l0) fun v1 => mb (gi 915 v1) fun v2 => mb (pi_ 915 v1 (v2 - (1 : Int32))) fun _ => b128_28 F F (some v1) l1
theorem t128_16 {sc : Nat × (Nat → Int32)} {F : Nat} {r : Int32} {h' : xv_H} {l0 : Option Nat} {l1 : Int32} {d2 d3 : Option Value} {h : xv_H} (e : b128_16 F l0 l1 h = some (r, h')) : xx sc 128 16 [some (va_rf l0), some (.int l1), d2, d3] [] h (fun v g => v = some (.int r) ∧ g = h') := by
  unfold b128_16 at e
  refine xo_aload_nQ (w := l0) rfl rfl ?_
  refine xo_dup rfl (by first | rfl | exact va_rf_cat _) ?_
  refine d_nn e (fun v1 g e1 => ?_)
  subst g
  replace e := e1
  clear e1
  refine d_geti rfl e (fun v2 e => ?_)
  refine xo_iconstV (x := 1) rfl (by decide) ?_
  refine xo_isub rfl ?_
  refine d_puti rfl e (fun h e => ?_)
  refine xo_iload_n rfl rfl ?_
  refine xo_istore_n rfl (Nat.le_of_ble_eq_true rfl) rfl ?_
  exact t128_28 F _ _ _ _ _ e
def b128_14 (F : Nat) : xm Int32 := mb (bz (0 : Int32)) fun _ => mr (0 : Int32)
theorem t128_14 {sc : Nat × (Nat → Int32)} {F : Nat} {r : Int32} {h' : xv_H} {d0 d1 d2 d3 : Option Value} {h : xv_H} (e : b128_14 F h = some (r, h')) : xx sc 128 14 [d0, d1, d2, d3] [] h (fun v g => v = some (.int r) ∧ g = h') := by
  unfold b128_14 at e
  refine xo_iconstV (x := 0) rfl (by decide) ?_
  exact d_zret rfl e
def b128_0 (F : Nat) (l0 : Option Nat) (l1 : Int32) : xm Int32 := mb (nn l0) fun v1 => mb (gi 915 v1) fun v2 => mb (m127 F l1 (0 : Int32) (v2 - (1 : Int32))) fun v3 => if ¬ v3 = 0 then b128_16 F (some v1) l1 else b128_14 F
theorem t128_0 {sc : Nat × (Nat → Int32)} {F : Nat} {r : Int32} {h' : xv_H} {l0 : Option Nat} {l1 : Int32} {d2 d3 : Option Value} {h : xv_H} (e : b128_0 F l0 l1 h = some (r, h')) : xx sc 128 0 [some (va_rf l0), some (.int l1), d2, d3] [] h (fun v g => v = some (.int r) ∧ g = h') := by
  unfold b128_0 at e
  refine xo_iload_n rfl rfl ?_
  refine xo_iconstV (x := 0) rfl (by decide) ?_
  refine xo_aload_nQ (w := l0) rfl rfl ?_
  refine d_nn e (fun v1 g e1 => ?_)
  subst g
  replace e := e1
  clear e1
  refine d_geti rfl e (fun v2 e => ?_)
  refine xo_iconstV (x := 1) rfl (by decide) ?_
  refine xo_isub rfl ?_
  refine d_static_i (av := [.int l1, .int (0 : Int32), .int (v2 - (1 : Int32))]) (rest := []) rfl ⟨by decide, by decide, by decide⟩ rfl rfl (by simp [xv_fit, va_rf_cat, cat_int, cat_long, cat_ref, cat_null, show xt_mx 127 = 3 from rfl, show xt_lg 127 = [] from rfl]) (by simp [xv_room, va_rf_cat, cat_int, cat_long, cat_ref, cat_null]) (fun x0 h1 e1 => t127 e1) e (fun v3 h e => ?_)
  refine d_if_ne rfl rfl e (fun _ e => ?_) (fun _ e => ?_)
  · exact t128_16 e
  · exact t128_14 e
def m128 (F : Nat) (this : Nat) (p0 : Int32) : xm Int32 := b128_0 F (some this) p0
theorem t128 {sc : Nat × (Nat → Int32)} {F : Nat} {this : Nat} {p0 : Int32} {h : xv_H} {r : Int32} {h' : xv_H} (e : m128 F this p0 h = some (r, h')) : xr sc 128 [.ref this, .int p0] h (fun v g => v = some (.int r) ∧ g = h') := by
  have e0 : xv_ent (xt_mx 128) [.ref this, .int p0] = [some (va_rf (some this)), some (.int p0), none, none] := by simp [xv_ent, xv_sl, va_rf_cat, cat_int, cat_long, cat_ref, cat_null, va_rf_some, show xt_mx 128 = 4 from rfl]
  unfold xr
  rw [e0]
  exact t128_0 e
-- CellTreeModel.lockOf(I)I
def b131_97 (F : Nat) (l3 : Int32) : xm Int32 := mr l3
theorem t131_97 {sc : Nat × (Nat → Int32)} {F : Nat} {r : Int32} {h' : xv_H} {l3 : Int32} {d0 d1 d2 d4 d5 : Option Value} {h : xv_H} (e : b131_97 F l3 h = some (r, h')) : xx sc 131 97 [d0, d1, d2, some (.int l3), d4, d5] [] h (fun v g => v = some (.int r) ∧ g = h') := by
  unfold b131_97 at e
  refine xo_iload_n rfl rfl ?_
  exact d_iret rfl e
def b131_91 (k10 : Option Nat → Int32 → Int32 → Int32 → Int32 → xm Int32) (F : Nat) (l0 : Option Nat) (l1 : Int32) (l2 : Int32) (l3 : Int32) (l4 : Int32) : xm Int32 := k10 l0 l1 l2 l3 (l4 + (1 : Int32))
theorem t131_91 {sc : Nat × (Nat → Int32)} {F : Nat} {r : Int32} {h' : xv_H} {k10 : Option Nat → Int32 → Int32 → Int32 → Int32 → xm Int32} (hk10 : ∀ (l0 : Option Nat) (l1 : Int32) (l2 : Int32) (l3 : Int32) (l4 : Int32) (d5 : Option Value) (h : xv_H), k10 l0 l1 l2 l3 l4 h = some (r, h') → xx sc 131 10 [some (va_rf l0), some (.int l1), some (.int l2), some (.int l3), some (.int l4), d5] [] h (fun v g => v = some (.int r) ∧ g = h')) {l0 : Option Nat} {l1 : Int32} {l2 : Int32} {l3 : Int32} {l4 : Int32} {d5 : Option Value} {h : xv_H} (e : b131_91 k10 F l0 l1 l2 l3 l4 h = some (r, h')) : xx sc 131 91 [some (va_rf l0), some (.int l1), some (.int l2), some (.int l3), some (.int l4), d5] [] h (fun v g => v = some (.int r) ∧ g = h') := by
  unfold b131_91 at e
  refine xo_iincV (z := 1) rfl (by decide) rfl (Nat.le_of_ble_eq_true rfl) rfl ?_
  refine xo_goto rfl rfl ?_
  exact hk10 _ _ _ _ _ _ _ e
def b131_84 (k10 : Option Nat → Int32 → Int32 → Int32 → Int32 → xm Int32) (k47 : Option Nat → Int32 → Int32 → Int32 → Int32 → Int32 → xm Int32) (F : Nat) (s0 : Int32) (l0 : Option Nat) (l1 : Int32) (l2 : Int32) (l4 : Int32) (l5 : Int32) : xm Int32 := k47 l0 l1 l2 s0 l4 (l5 + (1 : Int32))
theorem t131_84 {sc : Nat × (Nat → Int32)} {F : Nat} {r : Int32} {h' : xv_H} {k10 : Option Nat → Int32 → Int32 → Int32 → Int32 → xm Int32} {k47 : Option Nat → Int32 → Int32 → Int32 → Int32 → Int32 → xm Int32} (hk10 : ∀ (l0 : Option Nat) (l1 : Int32) (l2 : Int32) (l3 : Int32) (l4 : Int32) (d5 : Option Value) (h : xv_H), k10 l0 l1 l2 l3 l4 h = some (r, h') → xx sc 131 10 [some (va_rf l0), some (.int l1), some (.int l2), some (.int l3), some (.int l4), d5] [] h (fun v g => v = some (.int r) ∧ g = h')) (hk47 : ∀ (l0 : Option Nat) (l1 : Int32) (l2 : Int32) (l3 : Int32) (l4 : Int32) (l5 : Int32) (h : xv_H), k47 l0 l1 l2 l3 l4 l5 h = some (r, h') → xx sc 131 47 [some (va_rf l0), some (.int l1), some (.int l2), some (.int l3), some (.int l4), some (.int l5)] [] h (fun v g => v = some (.int r) ∧ g = h')) {s0 : Int32} {l0 : Option Nat} {l1 : Int32} {l2 : Int32} {l4 : Int32} {l5 : Int32} {d3 : Option Value} {h : xv_H} (e : b131_84 k10 k47 F s0 l0 l1 l2 l4 l5 h = some (r, h')) : xx sc 131 84 [some (va_rf l0), some (.int l1), some (.int l2), d3, some (.int l4), some (.int l5)] [.int s0] h (fun v g => v = some (.int r) ∧ g = h') := by
  unfold b131_84 at e
  refine xo_istore_n rfl (Nat.le_of_ble_eq_true rfl) rfl ?_
  refine xo_iincV (z := 1) rfl (by decide) rfl (Nat.le_of_ble_eq_true rfl) rfl ?_
  refine xo_goto rfl rfl ?_
  exact hk47 _ _ _ _ _ _ _ e
def b131_83 (k10 : Option Nat → Int32 → Int32 → Int32 → Int32 → xm Int32) (k47 : Option Nat → Int32 → Int32 → Int32 → Int32 → Int32 → xm Int32) (F : Nat) (l0 : Option Nat) (l1 : Int32) (l2 : Int32) (l3 : Int32) (l4 : Int32) (l5 : Int32) : xm Int32 := b131_84 k10 k47 F l3 l0 l1 l2 l4 l5
theorem t131_83 {sc : Nat × (Nat → Int32)} {F : Nat} {r : Int32} {h' : xv_H} {k10 : Option Nat → Int32 → Int32 → Int32 → Int32 → xm Int32} {k47 : Option Nat → Int32 → Int32 → Int32 → Int32 → Int32 → xm Int32} (hk10 : ∀ (l0 : Option Nat) (l1 : Int32) (l2 : Int32) (l3 : Int32) (l4 : Int32) (d5 : Option Value) (h : xv_H), k10 l0 l1 l2 l3 l4 h = some (r, h') → xx sc 131 10 [some (va_rf l0), some (.int l1), some (.int l2), some (.int l3), some (.int l4), d5] [] h (fun v g => v = some (.int r) ∧ g = h')) (hk47 : ∀ (l0 : Option Nat) (l1 : Int32) (l2 : Int32) (l3 : Int32) (l4 : Int32) (l5 : Int32) (h : xv_H), k47 l0 l1 l2 l3 l4 l5 h = some (r, h') → xx sc 131 47 [some (va_rf l0), some (.int l1), some (.int l2), some (.int l3), some (.int l4), some (.int l5)] [] h (fun v g => v = some (.int r) ∧ g = h')) {l0 : Option Nat} {l1 : Int32} {l2 : Int32} {l3 : Int32} {l4 : Int32} {l5 : Int32} {h : xv_H} (e : b131_83 k10 k47 F l0 l1 l2 l3 l4 l5 h = some (r, h')) : xx sc 131 83 [some (va_rf l0), some (.int l1), some (.int l2), some (.int l3), some (.int l4), some (.int l5)] [] h (fun v g => v = some (.int r) ∧ g = h') := by
  unfold b131_83 at e
  refine xo_iload_n rfl rfl ?_
  exact t131_84 hk10 hk47 e
def b131_78 (k10 : Option Nat → Int32 → Int32 → Int32 → Int32 → xm Int32) (k47 : Option Nat → Int32 → Int32 → Int32 → Int32 → Int32 → xm Int32) (F : Nat) (l0 : Option Nat) (l1 : Int32) (l2 : Int32) (l4 : Int32) (l5 : Int32) : xm Int32 := b131_84 k10 k47 F l4 l0 l1 l2 l4 l5
theorem t131_78 {sc : Nat × (Nat → Int32)} {F : Nat} {r : Int32} {h' : xv_H} {k10 : Option Nat → Int32 → Int32 → Int32 → Int32 → xm Int32} {k47 : Option Nat → Int32 → Int32 → Int32 → Int32 → Int32 → xm Int32} (hk10 : ∀ (l0 : Option Nat) (l1 : Int32) (l2 : Int32) (l3 : Int32) (l4 : Int32) (d5 : Option Value) (h : xv_H), k10 l0 l1 l2 l3 l4 h = some (r, h') → xx sc 131 10 [some (va_rf l0), some (.int l1), some (.int l2), some (.int l3), some (.int l4), d5] [] h (fun v g => v = some (.int r) ∧ g = h')) (hk47 : ∀ (l0 : Option Nat) (l1 : Int32) (l2 : Int32) (l3 : Int32) (l4 : Int32) (l5 : Int32) (h : xv_H), k47 l0 l1 l2 l3 l4 l5 h = some (r, h') → xx sc 131 47 [some (va_rf l0), some (.int l1), some (.int l2), some (.int l3), some (.int l4), some (.int l5)] [] h (fun v g => v = some (.int r) ∧ g = h')) {l0 : Option Nat} {l1 : Int32} {l2 : Int32} {l4 : Int32} {l5 : Int32} {d3 : Option Value} {h : xv_H} (e : b131_78 k10 k47 F l0 l1 l2 l4 l5 h = some (r, h')) : xx sc 131 78 [some (va_rf l0), some (.int l1), some (.int l2), d3, some (.int l4), some (.int l5)] [] h (fun v g => v = some (.int r) ∧ g = h') := by
  unfold b131_78 at e
  refine xo_iload rfl rfl ?_
  refine xo_goto rfl rfl ?_
  exact t131_84 hk10 hk47 e
def b131_67 (k10 : Option Nat → Int32 → Int32 → Int32 → Int32 → xm Int32) (k47 : Option Nat → Int32 → Int32 → Int32 → Int32 → Int32 → xm Int32) (F : Nat) (l0 : Option Nat) (l1 : Int32) (l2 : Int32) (l3 : Int32) (l4 : Int32) (l5 : Int32) : xm Int32 := mb (nn l0) fun v1 => mb (gr 911 v1) fun v2 => mb (nn v2) fun v3 => mb (lb v3 l5) fun v4 => if ¬ v4 = l1 then b131_83 k10 k47 F (some v1) l1 l2 l3 l4 l5 else b131_78 k10 k47 F (some v1) l1 l2 l4 l5
theorem t131_67 {sc : Nat × (Nat → Int32)} {F : Nat} {r : Int32} {h' : xv_H} {k10 : Option Nat → Int32 → Int32 → Int32 → Int32 → xm Int32} {k47 : Option Nat → Int32 → Int32 → Int32 → Int32 → Int32 → xm Int32} (hk10 : ∀ (l0 : Option Nat) (l1 : Int32) (l2 : Int32) (l3 : Int32) (l4 : Int32) (d5 : Option Value) (h : xv_H), k10 l0 l1 l2 l3 l4 h = some (r, h') → xx sc 131 10 [some (va_rf l0), some (.int l1), some (.int l2), some (.int l3), some (.int l4), d5] [] h (fun v g => v = some (.int r) ∧ g = h')) (hk47 : ∀ (l0 : Option Nat) (l1 : Int32) (l2 : Int32) (l3 : Int32) (l4 : Int32) (l5 : Int32) (h : xv_H), k47 l0 l1 l2 l3 l4 l5 h = some (r, h') → xx sc 131 47 [some (va_rf l0), some (.int l1), some (.int l2), some (.int l3), some (.int l4), some (.int l5)] [] h (fun v g => v = some (.int r) ∧ g = h')) {l0 : Option Nat} {l1 : Int32} {l2 : Int32} {l3 : Int32} {l4 : Int32} {l5 : Int32} {h : xv_H} (e : b131_67 k10 k47 F l0 l1 l2 l3 l4 l5 h = some (r, h')) : xx sc 131 67 [some (va_rf l0), some (.int l1), some (.int l2), some (.int l3), some (.int l4), some (.int l5)] [] h (fun v g => v = some (.int r) ∧ g = h') := by
  unfold b131_67 at e
  refine xo_aload_nQ (w := l0) rfl rfl ?_
  refine d_nn e (fun v1 g e1 => ?_)
  subst g
  replace e := e1
  clear e1
  refine d_getr rfl e (fun v2 e => ?_)
  refine xo_iload rfl rfl ?_
  refine d_nn e (fun v3 g e1 => ?_)
  subst g
  replace e := e1
  clear e1
  refine d_bald rfl e (fun v4 e => ?_)
  refine xo_iload_n rfl rfl ?_
  refine d_icmp_ne rfl rfl e (fun _ e => ?_) (fun _ e => ?_)
  · exact t131_83 hk10 hk47 e
  · exact t131_78 hk10 hk47 e
def b131_47 (k10 : Option Nat → Int32 → Int32 → Int32 → Int32 → xm Int32) (F : Nat) : Nat → Option Nat → Int32 → Int32 → Int32 → Int32 → Int32 → xm Int32
  | 0, _, _, _, _, _, _ => fun _ => none
  | f + 1, l0, l1, l2, l3, l4, l5 => mb (nn l0) fun v1 => mb (gr 906 v1) fun v2 => mb (nn v2) fun v3 => mb (li v3 l4) fun v4 => mb (gr 907 v1) fun v5 => mb (nn v5) fun v6 => mb (li v6 l4) fun v7 => if (v4 + v7) ≤ l5 then b131_91 k10 F (some v1) l1 l2 l3 l4 else b131_67 k10 (b131_47 k10 F f) F (some v1) l1 l2 l3 l4 l5
theorem t131_47 {sc : Nat × (Nat → Int32)} {F : Nat} {r : Int32} {h' : xv_H} {k10 : Option Nat → Int32 → Int32 → Int32 → Int32 → xm Int32} (hk10 : ∀ (l0 : Option Nat) (l1 : Int32) (l2 : Int32) (l3 : Int32) (l4 : Int32) (d5 : Option Value) (h : xv_H), k10 l0 l1 l2 l3 l4 h = some (r, h') → xx sc 131 10 [some (va_rf l0), some (.int l1), some (.int l2), some (.int l3), some (.int l4), d5] [] h (fun v g => v = some (.int r) ∧ g = h')) : ∀ (f : Nat) (l0 : Option Nat) (l1 : Int32) (l2 : Int32) (l3 : Int32) (l4 : Int32) (l5 : Int32) (h : xv_H), b131_47 k10 F f l0 l1 l2 l3 l4 l5 h = some (r, h') → xx sc 131 47 [some (va_rf l0), some (.int l1), some (.int l2), some (.int l3), some (.int l4), some (.int l5)] [] h (fun v g => v = some (.int r) ∧ g = h') := by
  intro f
  induction f with
  | zero => intro l0 l1 l2 l3 l4 l5 h e; cases e
  | succ f ih =>
    intro l0 l1 l2 l3 l4 l5 h e
    unfold b131_47 at e
    refine xo_iload rfl rfl ?_
    refine xo_aload_nQ (w := l0) rfl rfl ?_
    refine d_nn e (fun v1 g e1 => ?_)
    subst g
    replace e := e1
    clear e1
    refine d_getr rfl e (fun v2 e => ?_)
    refine xo_iload rfl rfl ?_
    refine d_nn e (fun v3 g e1 => ?_)
    subst g
    replace e := e1
    clear e1
    refine d_iald rfl e (fun v4 e => ?_)
    refine xo_aload_nQ (w := (some v1)) rfl rfl ?_
    refine d_getr rfl e (fun v5 e => ?_)
    refine xo_iload rfl rfl ?_
    refine d_nn e (fun v6 g e1 => ?_)
    subst g
    replace e := e1
    clear e1
    refine d_iald rfl e (fun v7 e => ?_)
    refine xo_iadd rfl ?_
    refine d_icmp_ge rfl rfl e (fun _ e => ?_) (fun _ e => ?_)
    · exact t131_91 hk10 e
    · exact t131_67 hk10 (fun a0 a1 a2 a3 a4 a5 h e => ih a0 a1 a2 a3 a4 a5 h e) e
def b131_38 (k10 : Option Nat → Int32 → Int32 → Int32 → Int32 → xm Int32) (F : Nat) (l0 : Option Nat) (l1 : Int32) (l2 : Int32) (l3 : Int32) (l4 : Int32) : xm Int32 := mb (nn l0) fun v1 => mb (gr 906 v1) fun v2 => mb (nn v2) fun v3 => mb (li v3 l4) fun v4 => b131_47 k10 F F (some v1) l1 l2 l3 l4 v4
theorem t131_38 {sc : Nat × (Nat → Int32)} {F : Nat} {r : Int32} {h' : xv_H} {k10 : Option Nat → Int32 → Int32 → Int32 → Int32 → xm Int32} (hk10 : ∀ (l0 : Option Nat) (l1 : Int32) (l2 : Int32) (l3 : Int32) (l4 : Int32) (d5 : Option Value) (h : xv_H), k10 l0 l1 l2 l3 l4 h = some (r, h') → xx sc 131 10 [some (va_rf l0), some (.int l1), some (.int l2), some (.int l3), some (.int l4), d5] [] h (fun v g => v = some (.int r) ∧ g = h')) {l0 : Option Nat} {l1 : Int32} {l2 : Int32} {l3 : Int32} {l4 : Int32} {d5 : Option Value} {h : xv_H} (e : b131_38 k10 F l0 l1 l2 l3 l4 h = some (r, h')) : xx sc 131 38 [some (va_rf l0), some (.int l1), some (.int l2), some (.int l3), some (.int l4), d5] [] h (fun v g => v = some (.int r) ∧ g = h') := by
  unfold b131_38 at e
  refine xo_aload_nQ (w := l0) rfl rfl ?_
  refine d_nn e (fun v1 g e1 => ?_)
  subst g
  replace e := e1
  clear e1
  refine d_getr rfl e (fun v2 e => ?_)
  refine xo_iload rfl rfl ?_
  refine d_nn e (fun v3 g e1 => ?_)
  subst g
  replace e := e1
  clear e1
  refine d_iald rfl e (fun v4 e => ?_)
  refine xo_istore rfl (Nat.le_of_ble_eq_true rfl) rfl ?_
  exact t131_47 hk10 F _ _ _ _ _ _ _ e
def b131_23 (k10 : Option Nat → Int32 → Int32 → Int32 → Int32 → xm Int32) (F : Nat) (l0 : Option Nat) (l1 : Int32) (l2 : Int32) (l3 : Int32) (l4 : Int32) : xm Int32 := mb (nn l0) fun v1 => mb (gr 908 v1) fun v2 => mb (nn v2) fun v3 => mb (lb v3 (((3 : Int32) * l4) + l2)) fun v4 => if ¬ v4 = (1 : Int32) then b131_91 k10 F (some v1) l1 l2 l3 l4 else b131_38 k10 F (some v1) l1 l2 l3 l4
theorem t131_23 {sc : Nat × (Nat → Int32)} {F : Nat} {r : Int32} {h' : xv_H} {k10 : Option Nat → Int32 → Int32 → Int32 → Int32 → xm Int32} (hk10 : ∀ (l0 : Option Nat) (l1 : Int32) (l2 : Int32) (l3 : Int32) (l4 : Int32) (d5 : Option Value) (h : xv_H), k10 l0 l1 l2 l3 l4 h = some (r, h') → xx sc 131 10 [some (va_rf l0), some (.int l1), some (.int l2), some (.int l3), some (.int l4), d5] [] h (fun v g => v = some (.int r) ∧ g = h')) {l0 : Option Nat} {l1 : Int32} {l2 : Int32} {l3 : Int32} {l4 : Int32} {d5 : Option Value} {h : xv_H} (e : b131_23 k10 F l0 l1 l2 l3 l4 h = some (r, h')) : xx sc 131 23 [some (va_rf l0), some (.int l1), some (.int l2), some (.int l3), some (.int l4), d5] [] h (fun v g => v = some (.int r) ∧ g = h') := by
  unfold b131_23 at e
  refine xo_aload_nQ (w := l0) rfl rfl ?_
  refine d_nn e (fun v1 g e1 => ?_)
  subst g
  replace e := e1
  clear e1
  refine d_getr rfl e (fun v2 e => ?_)
  refine xo_iconstV (x := 3) rfl (by decide) ?_
  refine xo_iload rfl rfl ?_
  refine xo_imul rfl ?_
  refine xo_iload_n rfl rfl ?_
  refine xo_iadd rfl ?_
  refine d_nn e (fun v3 g e1 => ?_)
  subst g
  replace e := e1
  clear e1
  refine d_bald rfl e (fun v4 e => ?_)
  refine xo_iconstV (x := 1) rfl (by decide) ?_
  refine d_icmp_ne rfl rfl e (fun _ e => ?_) (fun _ e => ?_)
  · exact t131_91 hk10 e
  · exact t131_38 hk10 e
def b131_19 (k10 : Option Nat → Int32 → Int32 → Int32 → Int32 → xm Int32) (F : Nat) (l0 : Option Nat) (l1 : Int32) (l2 : Int32) (l3 : Int32) (l4 : Int32) : xm Int32 := if ¬ l3 = 0 then b131_97 F l3 else b131_23 k10 F l0 l1 l2 l3 l4
theorem t131_19 {sc : Nat × (Nat → Int32)} {F : Nat} {r : Int32} {h' : xv_H} {k10 : Option Nat → Int32 → Int32 → Int32 → Int32 → xm Int32} (hk10 : ∀ (l0 : Option Nat) (l1 : Int32) (l2 : Int32) (l3 : Int32) (l4 : Int32) (d5 : Option Value) (h : xv_H), k10 l0 l1 l2 l3 l4 h = some (r, h') → xx sc 131 10 [some (va_rf l0), some (.int l1), some (.int l2), some (.int l3), some (.int l4), d5] [] h (fun v g => v = some (.int r) ∧ g = h')) {l0 : Option Nat} {l1 : Int32} {l2 : Int32} {l3 : Int32} {l4 : Int32} {d5 : Option Value} {h : xv_H} (e : b131_19 k10 F l0 l1 l2 l3 l4 h = some (r, h')) : xx sc 131 19 [some (va_rf l0), some (.int l1), some (.int l2), some (.int l3), some (.int l4), d5] [] h (fun v g => v = some (.int r) ∧ g = h') := by
  unfold b131_19 at e
  refine xo_iload_n rfl rfl ?_
  refine d_if_ne rfl rfl e (fun _ e => ?_) (fun _ e => ?_)
  · exact t131_97 e
  · exact t131_23 hk10 e
def b131_10 (F : Nat) : Nat → Option Nat → Int32 → Int32 → Int32 → Int32 → xm Int32
  | 0, _, _, _, _, _ => fun _ => none
  | f + 1, l0, l1, l2, l3, l4 => mb (nn l0) fun v1 => mb (gi 904 v1) fun v2 => if v2 < l4 then b131_97 F l3 else b131_19 (b131_10 F f) F (some v1) l1 l2 l3 l4
theorem t131_10 {sc : Nat × (Nat → Int32)} {F : Nat} {r : Int32} {h' : xv_H} : ∀ (f : Nat) (l0 : Option Nat) (l1 : Int32) (l2 : Int32) (l3 : Int32) (l4 : Int32) (d5 : Option Value) (h : xv_H), b131_10 F f l0 l1 l2 l3 l4 h = some (r, h') → xx sc 131 10 [some (va_rf l0), some (.int l1), some (.int l2), some (.int l3), some (.int l4), d5] [] h (fun v g => v = some (.int r) ∧ g = h') := by
  intro f
  induction f with
  | zero => intro l0 l1 l2 l3 l4 d5 h e; cases e
  | succ f ih =>
    intro l0 l1 l2 l3 l4 d5 h e
    unfold b131_10 at e
    refine xo_iload rfl rfl ?_
    refine xo_aload_nQ (w := l0) rfl rfl ?_
    refine d_nn e (fun v1 g e1 => ?_)
    subst g
    replace e := e1
    clear e1
    refine d_geti rfl e (fun v2 e => ?_)
    refine d_icmp_gt rfl rfl e (fun _ e => ?_) (fun _ e => ?_)
    · exact t131_97 e
    · exact t131_19 (fun a0 a1 a2 a3 a4 a5 h e => ih a0 a1 a2 a3 a4 a5 h e) e
def b131_0 (F : Nat) (l0 : Option Nat) (l1 : Int32) : xm Int32 := mb (dz (8 : Int32)) fun _ => b131_10 F F l0 l1 (l1 / (8 : Int32)) (0 : Int32) (1 : Int32)
theorem t131_0 {sc : Nat × (Nat → Int32)} {F : Nat} {r : Int32} {h' : xv_H} {l0 : Option Nat} {l1 : Int32} {d2 d3 d4 d5 : Option Value} {h : xv_H} (e : b131_0 F l0 l1 h = some (r, h')) : xx sc 131 0 [some (va_rf l0), some (.int l1), d2, d3, d4, d5] [] h (fun v g => v = some (.int r) ∧ g = h') := by
  unfold b131_0 at e
  refine xo_iload_n rfl rfl ?_
  refine xo_bipushV (x := 8) rfl (by decide) ?_
  refine d_idiv rfl e (fun e => ?_)
  refine xo_istore_n rfl (Nat.le_of_ble_eq_true rfl) rfl ?_
  refine xo_iconstV (x := 0) rfl (by decide) ?_
  refine xo_istore_n rfl (Nat.le_of_ble_eq_true rfl) rfl ?_
  refine xo_iconstV (x := 1) rfl (by decide) ?_
  refine xo_istore rfl (Nat.le_of_ble_eq_true rfl) rfl ?_
  exact t131_10 F _ _ _ _ _ _ _ e
def m131 (F : Nat) (this : Nat) (p0 : Int32) : xm Int32 := b131_0 F (some this) p0
theorem t131 {sc : Nat × (Nat → Int32)} {F : Nat} {this : Nat} {p0 : Int32} {h : xv_H} {r : Int32} {h' : xv_H} (e : m131 F this p0 h = some (r, h')) : xr sc 131 [.ref this, .int p0] h (fun v g => v = some (.int r) ∧ g = h') := by
  have e0 : xv_ent (xt_mx 131) [.ref this, .int p0] = [some (va_rf (some this)), some (.int p0), none, none, none, none] := by simp [xv_ent, xv_sl, va_rf_cat, cat_int, cat_long, cat_ref, cat_null, va_rf_some, show xt_mx 131 = 6 from rfl]
  unfold xr
  rw [e0]
  exact t131_0 e
-- CellTreeModel.send(III)I
def b132_11 (F : Nat) (l0 : Option Nat) (l1 : Int32) (l2 : Int32) (l3 : Int32) : xm Int32 := mb (nn l0) fun v1 => mb (gr 916 v1) fun v2 => mb (gi 915 v1) fun v3 => mb (nn v2) fun v4 => mb (si v4 v3 l1) fun _ => mb (gr 917 v1) fun v5 => mb (gi 915 v1) fun v6 => mb (nn v5) fun v7 => mb (si v7 v6 l2) fun _ => mb (gr 918 v1) fun v8 => mb (gi 915 v1) fun v9 => mb (nn v8) fun v10 => mb (si v10 v9 l3) fun _ => mb (gr 919 v1) fun v11 => mb (gi 915 v1) fun v12 => mb (nn v11) fun v13 => mb (si v13 v12 (0 : Int32)) fun _ => mb (gr 920 v1) fun v14 => mb (gi 915 v1) fun v15 => mb (nn v14) fun v16 => mb (sl v16 v15 (0 : Int64)) fun _ => mb (gi 915 v1) fun v17 => mb (pi_ 915 v1 (v17 + (1 : Int32))) fun _ => mb (gi 915 v1) fun v18 => mr (v18 - (1 : Int32))
theorem t132_11 {sc : Nat × (Nat → Int32)} {F : Nat} {r : Int32} {h' : xv_H} {l0 : Option Nat} {l1 : Int32} {l2 : Int32} {l3 : Int32} {h : xv_H} (e : b132_11 F l0 l1 l2 l3 h = some (r, h')) : xx sc 132 11 [some (va_rf l0), some (.int l1), some (.int l2), some (.int l3)] [] h (fun v g => v = some (.int r) ∧ g = h') := by
  unfold b132_11 at e
  refine xo_aload_nQ (w := l0) rfl rfl ?_
  refine d_nn e (fun v1 g e1 => ?_)
  subst g
  replace e := e1
  clear e1
  refine d_getr rfl e (fun v2 e => ?_)
  refine xo_aload_nQ (w := (some v1)) rfl rfl ?_
  refine d_geti rfl e (fun v3 e => ?_)
  refine xo_iload_n rfl rfl ?_
  refine d_nn e (fun v4 g e1 => ?_)
  subst g
  replace e := e1
  clear e1
  refine d_iast rfl e (fun h e => ?_)
  refine xo_aload_nQ (w := (some v1)) rfl rfl ?_
  refine d_getr rfl e (fun v5 e => ?_)
  refine xo_aload_nQ (w := (some v1)) rfl rfl ?_
  refine d_geti rfl e (fun v6 e => ?_)
  refine xo_iload_n rfl rfl ?_
  refine d_nn e (fun v7 g e1 => ?_)
  subst g
  replace e := e1
  clear e1
  refine d_iast rfl e (fun h e => ?_)
  refine xo_aload_nQ (w := (some v1)) rfl rfl ?_
  refine d_getr rfl e (fun v8 e => ?_)
  refine xo_aload_nQ (w := (some v1)) rfl rfl ?_
  refine d_geti rfl e (fun v9 e => ?_)
  refine xo_iload_n rfl rfl ?_
  refine d_nn e (fun v10 g e1 => ?_)
  subst g
  replace e := e1
  clear e1
  refine d_iast rfl e (fun h e => ?_)
  refine xo_aload_nQ (w := (some v1)) rfl rfl ?_
  refine d_getr rfl e (fun v11 e => ?_)
  refine xo_aload_nQ (w := (some v1)) rfl rfl ?_
  refine d_geti rfl e (fun v12 e => ?_)
  refine xo_iconstV (x := 0) rfl (by decide) ?_
  refine d_nn e (fun v13 g e1 => ?_)
  subst g
  replace e := e1
  clear e1
  refine d_iast rfl e (fun h e => ?_)
  refine xo_aload_nQ (w := (some v1)) rfl rfl ?_
  refine d_getr rfl e (fun v14 e => ?_)
  refine xo_aload_nQ (w := (some v1)) rfl rfl ?_
  refine d_geti rfl e (fun v15 e => ?_)
  refine xo_lconstV (u := 0) rfl (by decide) ?_
  refine d_nn e (fun v16 g e1 => ?_)
  subst g
  replace e := e1
  clear e1
  refine d_last rfl e (fun h e => ?_)
  refine xo_aload_nQ (w := (some v1)) rfl rfl ?_
  refine xo_dup rfl (by first | rfl | exact va_rf_cat _) ?_
  refine d_geti rfl e (fun v17 e => ?_)
  refine xo_iconstV (x := 1) rfl (by decide) ?_
  refine xo_iadd rfl ?_
  refine d_puti rfl e (fun h e => ?_)
  refine xo_aload_nQ (w := (some v1)) rfl rfl ?_
  refine d_geti rfl e (fun v18 e => ?_)
  refine xo_iconstV (x := 1) rfl (by decide) ?_
  refine xo_isub rfl ?_
  exact d_iret rfl e
def b132_9 (F : Nat) : xm Int32 := mr (-1 : Int32)
theorem t132_9 {sc : Nat × (Nat → Int32)} {F : Nat} {r : Int32} {h' : xv_H} {d0 d1 d2 d3 : Option Value} {h : xv_H} (e : b132_9 F h = some (r, h')) : xx sc 132 9 [d0, d1, d2, d3] [] h (fun v g => v = some (.int r) ∧ g = h') := by
  unfold b132_9 at e
  refine xo_iconstV (x := (-1)) rfl (by decide) ?_
  exact d_iret rfl e
def b132_0 (F : Nat) (l0 : Option Nat) (l1 : Int32) (l2 : Int32) (l3 : Int32) : xm Int32 := mb (nn l0) fun v1 => mb (gi 915 v1) fun v2 => if ¬ v2 = (40 : Int32) then b132_11 F (some v1) l1 l2 l3 else b132_9 F
theorem t132_0 {sc : Nat × (Nat → Int32)} {F : Nat} {r : Int32} {h' : xv_H} {l0 : Option Nat} {l1 : Int32} {l2 : Int32} {l3 : Int32} {h : xv_H} (e : b132_0 F l0 l1 l2 l3 h = some (r, h')) : xx sc 132 0 [some (va_rf l0), some (.int l1), some (.int l2), some (.int l3)] [] h (fun v g => v = some (.int r) ∧ g = h') := by
  unfold b132_0 at e
  refine xo_aload_nQ (w := l0) rfl rfl ?_
  refine d_nn e (fun v1 g e1 => ?_)
  subst g
  replace e := e1
  clear e1
  refine d_geti rfl e (fun v2 e => ?_)
  refine xo_bipushV (x := 40) rfl (by decide) ?_
  refine d_icmp_ne rfl rfl e (fun _ e => ?_) (fun _ e => ?_)
  · exact t132_11 e
  · exact t132_9 e
def m132 (F : Nat) (this : Nat) (p0 : Int32) (p1 : Int32) (p2 : Int32) : xm Int32 := b132_0 F (some this) p0 p1 p2
theorem t132 {sc : Nat × (Nat → Int32)} {F : Nat} {this : Nat} {p0 : Int32} {p1 : Int32} {p2 : Int32} {h : xv_H} {r : Int32} {h' : xv_H} (e : m132 F this p0 p1 p2 h = some (r, h')) : xr sc 132 [.ref this, .int p0, .int p1, .int p2] h (fun v g => v = some (.int r) ∧ g = h') := by
  have e0 : xv_ent (xt_mx 132) [.ref this, .int p0, .int p1, .int p2] = [some (va_rf (some this)), some (.int p0), some (.int p1), some (.int p2)] := by simp [xv_ent, xv_sl, va_rf_cat, cat_int, cat_long, cat_ref, cat_null, va_rf_some, show xt_mx 132 = 4 from rfl]
  unfold xr
  rw [e0]
  exact t132_0 e
-- CellTreeModel.kindOf(J)I
def b134_0 (F : Nat) (l0 : Int64) : xm Int32 := mr (((l0 &&& (3 : Int64))).toInt32)
theorem t134_0 {sc : Nat × (Nat → Int32)} {F : Nat} {r : Int32} {h' : xv_H} {l0 : Int64} {d1 : Option Value} {h : xv_H} (e : b134_0 F l0 h = some (r, h')) : xx sc 134 0 [some (.long l0), d1] [] h (fun v g => v = some (.int r) ∧ g = h') := by
  unfold b134_0 at e
  refine xo_lload_n rfl rfl ?_
  refine xo_ldc2V (u := 3) rfl (by decide) ?_
  refine xo_land rfl ?_
  refine xo_l2i rfl ?_
  exact d_iret rfl e
def m134 (F : Nat) (p0 : Int64) : xm Int32 := b134_0 F p0
theorem t134 {sc : Nat × (Nat → Int32)} {F : Nat} {p0 : Int64} {h : xv_H} {r : Int32} {h' : xv_H} (e : m134 F p0 h = some (r, h')) : xr sc 134 [.long p0] h (fun v g => v = some (.int r) ∧ g = h') := by
  have e0 : xv_ent (xt_mx 134) [.long p0] = [some (.long p0), none] := by simp [xv_ent, xv_sl, va_rf_cat, cat_int, cat_long, cat_ref, cat_null, va_rf_some, show xt_mx 134 = 2 from rfl]
  unfold xr
  rw [e0]
  exact t134_0 e
-- CellTreeModel.fits(I)Z
def b133_59 (F : Nat) (s0 : Int32) : xm Int32 := mb (bz s0) fun _ => mr s0
theorem t133_59 {sc : Nat × (Nat → Int32)} {F : Nat} {r : Int32} {h' : xv_H} {s0 : Int32} {d0 d1 d2 d3 : Option Value} {h : xv_H} (e : b133_59 F s0 h = some (r, h')) : xx sc 133 59 [d0, d1, d2, d3] [.int s0] h (fun v g => v = some (.int r) ∧ g = h') := by
  unfold b133_59 at e
  exact d_zret rfl e
def b133_58 (F : Nat) : xm Int32 := b133_59 F (0 : Int32)
theorem t133_58 {sc : Nat × (Nat → Int32)} {F : Nat} {r : Int32} {h' : xv_H} {d0 d1 d2 d3 : Option Value} {h : xv_H} (e : b133_58 F h = some (r, h')) : xx sc 133 58 [d0, d1, d2, d3] [] h (fun v g => v = some (.int r) ∧ g = h') := by
  unfold b133_58 at e
  refine xo_iconstV (x := 0) rfl (by decide) ?_
  exact t133_59 e
def b133_54 (F : Nat) : xm Int32 := b133_59 F (1 : Int32)
theorem t133_54 {sc : Nat × (Nat → Int32)} {F : Nat} {r : Int32} {h' : xv_H} {d0 d1 d2 d3 : Option Value} {h : xv_H} (e : b133_54 F h = some (r, h')) : xx sc 133 54 [d0, d1, d2, d3] [] h (fun v g => v = some (.int r) ∧ g = h') := by
  unfold b133_54 at e
  refine xo_iconstV (x := 1) rfl (by decide) ?_
  refine xo_goto rfl rfl ?_
  exact t133_59 e
def b133_39 (F : Nat) (l0 : Option Nat) (l1 : Int32) (l2 : Int32) : xm Int32 := mb (nn l0) fun v1 => mb (gr 902 v1) fun v2 => mb (nn v2) fun v3 => mb (li v3 l2) fun v4 => mb (gr 912 v1) fun v5 => mb (nn v5) fun v6 => mb (li v6 l1) fun v7 => if ¬ v4 = v7 then b133_58 F else b133_54 F
theorem t133_39 {sc : Nat × (Nat → Int32)} {F : Nat} {r : Int32} {h' : xv_H} {l0 : Option Nat} {l1 : Int32} {l2 : Int32} {d3 : Option Value} {h : xv_H} (e : b133_39 F l0 l1 l2 h = some (r, h')) : xx sc 133 39 [some (va_rf l0), some (.int l1), some (.int l2), d3] [] h (fun v g => v = some (.int r) ∧ g = h') := by
  unfold b133_39 at e
  refine xo_aload_nQ (w := l0) rfl rfl ?_
  refine d_nn e (fun v1 g e1 => ?_)
  subst g
  replace e := e1
  clear e1
  refine d_getr rfl e (fun v2 e => ?_)
  refine xo_iload_n rfl rfl ?_
  refine d_nn e (fun v3 g e1 => ?_)
  subst g
  replace e := e1
  clear e1
  refine d_iald rfl e (fun v4 e => ?_)
  refine xo_aload_nQ (w := (some v1)) rfl rfl ?_
  refine d_getr rfl e (fun v5 e => ?_)
  refine xo_iload_n rfl rfl ?_
  refine d_nn e (fun v6 g e1 => ?_)
  subst g
  replace e := e1
  clear e1
  refine d_iald rfl e (fun v7 e => ?_)
  refine d_icmp_ne rfl rfl e (fun _ e => ?_) (fun _ e => ?_)
  · exact t133_58 e
  · exact t133_54 e
def b133_36 (F : Nat) : xm Int32 := b133_54 F
theorem t133_36 {sc : Nat × (Nat → Int32)} {F : Nat} {r : Int32} {h' : xv_H} {d0 d1 d2 d3 : Option Value} {h : xv_H} (e : b133_36 F h = some (r, h')) : xx sc 133 36 [d0, d1, d2, d3] [] h (fun v g => v = some (.int r) ∧ g = h') := by
  unfold b133_36 at e
  refine xo_goto rfl rfl ?_
  exact t133_54 e
def b133_24 (F : Nat) (l0 : Option Nat) (l2 : Int32) : xm Int32 := mb (nn l0) fun v1 => mb (gr 901 v1) fun v2 => mb (nn v2) fun v3 => mb (ll v3 l2) fun v4 => mb (m134 F v4) fun v5 => if ¬ v5 = 0 then b133_58 F else b133_36 F
theorem t133_24 {sc : Nat × (Nat → Int32)} {F : Nat} {r : Int32} {h' : xv_H} {l0 : Option Nat} {l2 : Int32} {d1 d3 : Option Value} {h : xv_H} (e : b133_24 F l0 l2 h = some (r, h')) : xx sc 133 24 [some (va_rf l0), d1, some (.int l2), d3] [] h (fun v g => v = some (.int r) ∧ g = h') := by
  unfold b133_24 at e
  refine xo_aload_nQ (w := l0) rfl rfl ?_
  refine d_nn e (fun v1 g e1 => ?_)
  subst g
  replace e := e1
  clear e1
  refine d_getr rfl e (fun v2 e => ?_)
  refine xo_iload_n rfl rfl ?_
  refine d_nn e (fun v3 g e1 => ?_)
  subst g
  replace e := e1
  clear e1
  refine d_lald rfl e (fun v4 e => ?_)
  refine d_static_i (av := [.long v4]) (rest := []) rfl ⟨by decide, by decide, by decide⟩ rfl rfl (by simp [xv_fit, va_rf_cat, cat_int, cat_long, cat_ref, cat_null, show xt_mx 134 = 2 from rfl, show xt_lg 134 = [0] from rfl]) (by simp [xv_room, va_rf_cat, cat_int, cat_long, cat_ref, cat_null]) (fun x0 h1 e1 => t134 e1) e (fun v5 h e => ?_)
  refine d_if_ne rfl rfl e (fun _ e => ?_) (fun _ e => ?_)
  · exact t133_58 e
  · exact t133_36 e
def b133_19 (F : Nat) (l0 : Option Nat) (l1 : Int32) (l2 : Int32) (l3 : Int32) : xm Int32 := if ¬ l3 = (4 : Int32) then b133_39 F l0 l1 l2 else b133_24 F l0 l2
theorem t133_19 {sc : Nat × (Nat → Int32)} {F : Nat} {r : Int32} {h' : xv_H} {l0 : Option Nat} {l1 : Int32} {l2 : Int32} {l3 : Int32} {h : xv_H} (e : b133_19 F l0 l1 l2 l3 h = some (r, h')) : xx sc 133 19 [some (va_rf l0), some (.int l1), some (.int l2), some (.int l3)] [] h (fun v g => v = some (.int r) ∧ g = h') := by
  unfold b133_19 at e
  refine xo_iload_n rfl rfl ?_
  refine xo_iconstV (x := 4) rfl (by decide) ?_
  refine d_icmp_ne rfl rfl e (fun _ e => ?_) (fun _ e => ?_)
  · exact t133_39 e
  · exact t133_24 e
def b133_0 (F : Nat) (l0 : Option Nat) (l1 : Int32) : xm Int32 := mb (nn l0) fun v1 => mb (gr 911 v1) fun v2 => mb (nn v2) fun v3 => mb (lb v3 l1) fun v4 => mb (gr 910 v1) fun v5 => mb (nn v5) fun v6 => mb (lb v6 l1) fun v7 => if v7 = (1 : Int32) then b133_54 F else b133_19 F (some v1) l1 v4 v7
theorem t133_0 {sc : Nat × (Nat → Int32)} {F : Nat} {r : Int32} {h' : xv_H} {l0 : Option Nat} {l1 : Int32} {d2 d3 : Option Value} {h : xv_H} (e : b133_0 F l0 l1 h = some (r, h')) : xx sc 133 0 [some (va_rf l0), some (.int l1), d2, d3] [] h (fun v g => v = some (.int r) ∧ g = h') := by
  unfold b133_0 at e
  refine xo_aload_nQ (w := l0) rfl rfl ?_
  refine d_nn e (fun v1 g e1 => ?_)
  subst g
  replace e := e1
  clear e1
  refine d_getr rfl e (fun v2 e => ?_)
  refine xo_iload_n rfl rfl ?_
  refine d_nn e (fun v3 g e1 => ?_)
  subst g
  replace e := e1
  clear e1
  refine d_bald rfl e (fun v4 e => ?_)
  refine xo_istore_n rfl (Nat.le_of_ble_eq_true rfl) rfl ?_
  refine xo_aload_nQ (w := (some v1)) rfl rfl ?_
  refine d_getr rfl e (fun v5 e => ?_)
  refine xo_iload_n rfl rfl ?_
  refine d_nn e (fun v6 g e1 => ?_)
  subst g
  replace e := e1
  clear e1
  refine d_bald rfl e (fun v7 e => ?_)
  refine xo_istore_n rfl (Nat.le_of_ble_eq_true rfl) rfl ?_
  refine xo_iload_n rfl rfl ?_
  refine xo_iconstV (x := 1) rfl (by decide) ?_
  refine d_icmp_eq rfl rfl e (fun _ e => ?_) (fun _ e => ?_)
  · exact t133_54 e
  · exact t133_19 e
def m133 (F : Nat) (this : Nat) (p0 : Int32) : xm Int32 := b133_0 F (some this) p0
theorem t133 {sc : Nat × (Nat → Int32)} {F : Nat} {this : Nat} {p0 : Int32} {h : xv_H} {r : Int32} {h' : xv_H} (e : m133 F this p0 h = some (r, h')) : xr sc 133 [.ref this, .int p0] h (fun v g => v = some (.int r) ∧ g = h') := by
  have e0 : xv_ent (xt_mx 133) [.ref this, .int p0] = [some (va_rf (some this)), some (.int p0), none, none] := by simp [xv_ent, xv_sl, va_rf_cat, cat_int, cat_long, cat_ref, cat_null, va_rf_some, show xt_mx 133 = 4 from rfl]
  unfold xr
  rw [e0]
  exact t133_0 e
-- CellTreeModel.takesPart(II)Z
def b136_58 (F : Nat) (l3 : Int32) : xm Int32 := mb (bz l3) fun _ => mr l3
theorem t136_58 {sc : Nat × (Nat → Int32)} {F : Nat} {r : Int32} {h' : xv_H} {l3 : Int32} {d0 d1 d2 d4 : Option Value} {h : xv_H} (e : b136_58 F l3 h = some (r, h')) : xx sc 136 58 [d0, d1, d2, some (.int l3), d4] [] h (fun v g => v = some (.int r) ∧ g = h') := by
  unfold b136_58 at e
  refine xo_iload_n rfl rfl ?_
  exact d_zret rfl e
def b136_51 (k10 : Option Nat → Int32 → Int32 → Int32 → Int32 → xm Int32) (F : Nat) (s0 : Int32) (l0 : Option Nat) (l1 : Int32) (l2 : Int32) (l4 : Int32) : xm Int32 := k10 l0 l1 l2 s0 (l4 + (1 : Int32))
theorem t136_51 {sc : Nat × (Nat → Int32)} {F : Nat} {r : Int32} {h' : xv_H} {k10 : Option Nat → Int32 → Int32 → Int32 → Int32 → xm Int32} (hk10 : ∀ (l0 : Option Nat) (l1 : Int32) (l2 : Int32) (l3 : Int32) (l4 : Int32) (h : xv_H), k10 l0 l1 l2 l3 l4 h = some (r, h') → xx sc 136 10 [some (va_rf l0), some (.int l1), some (.int l2), some (.int l3), some (.int l4)] [] h (fun v g => v = some (.int r) ∧ g = h')) {s0 : Int32} {l0 : Option Nat} {l1 : Int32} {l2 : Int32} {l4 : Int32} {d3 : Option Value} {h : xv_H} (e : b136_51 k10 F s0 l0 l1 l2 l4 h = some (r, h')) : xx sc 136 51 [some (va_rf l0), some (.int l1), some (.int l2), d3, some (.int l4)] [.int s0] h (fun v g => v = some (.int r) ∧ g = h') := by
  unfold b136_51 at e
  refine xo_istore_n rfl (Nat.le_of_ble_eq_true rfl) rfl ?_
  refine xo_iincV (z := 1) rfl (by decide) rfl (Nat.le_of_ble_eq_true rfl) rfl ?_
  refine xo_goto rfl rfl ?_
  exact hk10 _ _ _ _ _ _ e
def b136_50 (k10 : Option Nat → Int32 → Int32 → Int32 → Int32 → xm Int32) (F : Nat) (l0 : Option Nat) (l1 : Int32) (l2 : Int32) (l4 : Int32) : xm Int32 := b136_51 k10 F (0 : Int32) l0 l1 l2 l4
theorem t136_50 {sc : Nat × (Nat → Int32)} {F : Nat} {r : Int32} {h' : xv_H} {k10 : Option Nat → Int32 → Int32 → Int32 → Int32 → xm Int32} (hk10 : ∀ (l0 : Option Nat) (l1 : Int32) (l2 : Int32) (l3 : Int32) (l4 : Int32) (h : xv_H), k10 l0 l1 l2 l3 l4 h = some (r, h') → xx sc 136 10 [some (va_rf l0), some (.int l1), some (.int l2), some (.int l3), some (.int l4)] [] h (fun v g => v = some (.int r) ∧ g = h')) {l0 : Option Nat} {l1 : Int32} {l2 : Int32} {l4 : Int32} {d3 : Option Value} {h : xv_H} (e : b136_50 k10 F l0 l1 l2 l4 h = some (r, h')) : xx sc 136 50 [some (va_rf l0), some (.int l1), some (.int l2), d3, some (.int l4)] [] h (fun v g => v = some (.int r) ∧ g = h') := by
  unfold b136_50 at e
  refine xo_iconstV (x := 0) rfl (by decide) ?_
  exact t136_51 hk10 e
def b136_46 (k10 : Option Nat → Int32 → Int32 → Int32 → Int32 → xm Int32) (F : Nat) (l0 : Option Nat) (l1 : Int32) (l2 : Int32) (l4 : Int32) : xm Int32 := b136_51 k10 F (1 : Int32) l0 l1 l2 l4
theorem t136_46 {sc : Nat × (Nat → Int32)} {F : Nat} {r : Int32} {h' : xv_H} {k10 : Option Nat → Int32 → Int32 → Int32 → Int32 → xm Int32} (hk10 : ∀ (l0 : Option Nat) (l1 : Int32) (l2 : Int32) (l3 : Int32) (l4 : Int32) (h : xv_H), k10 l0 l1 l2 l3 l4 h = some (r, h') → xx sc 136 10 [some (va_rf l0), some (.int l1), some (.int l2), some (.int l3), some (.int l4)] [] h (fun v g => v = some (.int r) ∧ g = h')) {l0 : Option Nat} {l1 : Int32} {l2 : Int32} {l4 : Int32} {d3 : Option Value} {h : xv_H} (e : b136_46 k10 F l0 l1 l2 l4 h = some (r, h')) : xx sc 136 46 [some (va_rf l0), some (.int l1), some (.int l2), d3, some (.int l4)] [] h (fun v g => v = some (.int r) ∧ g = h') := by
  unfold b136_46 at e
  refine xo_iconstV (x := 1) rfl (by decide) ?_
  refine xo_goto rfl rfl ?_
  exact t136_51 hk10 e
def b136_32 (k10 : Option Nat → Int32 → Int32 → Int32 → Int32 → xm Int32) (F : Nat) (l0 : Option Nat) (l1 : Int32) (l2 : Int32) (l4 : Int32) : xm Int32 := mb (nn l0) fun v1 => mb (gr 911 v1) fun v2 => mb (nn v2) fun v3 => mb (lb v3 l4) fun v4 => mb (dz (8 : Int32)) fun _ => if ¬ (v4 / (8 : Int32)) = l2 then b136_50 k10 F (some v1) l1 l2 l4 else b136_46 k10 F (some v1) l1 l2 l4
theorem t136_32 {sc : Nat × (Nat → Int32)} {F : Nat} {r : Int32} {h' : xv_H} {k10 : Option Nat → Int32 → Int32 → Int32 → Int32 → xm Int32} (hk10 : ∀ (l0 : Option Nat) (l1 : Int32) (l2 : Int32) (l3 : Int32) (l4 : Int32) (h : xv_H), k10 l0 l1 l2 l3 l4 h = some (r, h') → xx sc 136 10 [some (va_rf l0), some (.int l1), some (.int l2), some (.int l3), some (.int l4)] [] h (fun v g => v = some (.int r) ∧ g = h')) {l0 : Option Nat} {l1 : Int32} {l2 : Int32} {l4 : Int32} {d3 : Option Value} {h : xv_H} (e : b136_32 k10 F l0 l1 l2 l4 h = some (r, h')) : xx sc 136 32 [some (va_rf l0), some (.int l1), some (.int l2), d3, some (.int l4)] [] h (fun v g => v = some (.int r) ∧ g = h') := by
  unfold b136_32 at e
  refine xo_aload_nQ (w := l0) rfl rfl ?_
  refine d_nn e (fun v1 g e1 => ?_)
  subst g
  replace e := e1
  clear e1
  refine d_getr rfl e (fun v2 e => ?_)
  refine xo_iload rfl rfl ?_
  refine d_nn e (fun v3 g e1 => ?_)
  subst g
  replace e := e1
  clear e1
  refine d_bald rfl e (fun v4 e => ?_)
  refine xo_bipushV (x := 8) rfl (by decide) ?_
  refine d_idiv rfl e (fun e => ?_)
  refine xo_iload_n rfl rfl ?_
  refine d_icmp_ne rfl rfl e (fun _ e => ?_) (fun _ e => ?_)
  · exact t136_50 hk10 e
  · exact t136_46 hk10 e
def b136_28 (k10 : Option Nat → Int32 → Int32 → Int32 → Int32 → xm Int32) (F : Nat) (l0 : Option Nat) (l1 : Int32) (l2 : Int32) (l3 : Int32) (l4 : Int32) : xm Int32 := if ¬ l3 = 0 then b136_46 k10 F l0 l1 l2 l4 else b136_32 k10 F l0 l1 l2 l4
theorem t136_28 {sc : Nat × (Nat → Int32)} {F : Nat} {r : Int32} {h' : xv_H} {k10 : Option Nat → Int32 → Int32 → Int32 → Int32 → xm Int32} (hk10 : ∀ (l0 : Option Nat) (l1 : Int32) (l2 : Int32) (l3 : Int32) (l4 : Int32) (h : xv_H), k10 l0 l1 l2 l3 l4 h = some (r, h') → xx sc 136 10 [some (va_rf l0), some (.int l1), some (.int l2), some (.int l3), some (.int l4)] [] h (fun v g => v = some (.int r) ∧ g = h')) {l0 : Option Nat} {l1 : Int32} {l2 : Int32} {l3 : Int32} {l4 : Int32} {h : xv_H} (e : b136_28 k10 F l0 l1 l2 l3 l4 h = some (r, h')) : xx sc 136 28 [some (va_rf l0), some (.int l1), some (.int l2), some (.int l3), some (.int l4)] [] h (fun v g => v = some (.int r) ∧ g = h') := by
  unfold b136_28 at e
  refine xo_iload_n rfl rfl ?_
  refine d_if_ne rfl rfl e (fun _ e => ?_) (fun _ e => ?_)
  · exact t136_46 hk10 e
  · exact t136_32 hk10 e
def b136_10 (F : Nat) : Nat → Option Nat → Int32 → Int32 → Int32 → Int32 → xm Int32
  | 0, _, _, _, _, _ => fun _ => none
  | f + 1, l0, l1, l2, l3, l4 => mb (nn l0) fun v1 => mb (gr 906 v1) fun v2 => mb (nn v2) fun v3 => mb (li v3 l1) fun v4 => mb (gr 907 v1) fun v5 => mb (nn v5) fun v6 => mb (li v6 l1) fun v7 => if (v4 + v7) ≤ l4 then b136_58 F l3 else b136_28 (b136_10 F f) F (some v1) l1 l2 l3 l4
theorem t136_10 {sc : Nat × (Nat → Int32)} {F : Nat} {r : Int32} {h' : xv_H} : ∀ (f : Nat) (l0 : Option Nat) (l1 : Int32) (l2 : Int32) (l3 : Int32) (l4 : Int32) (h : xv_H), b136_10 F f l0 l1 l2 l3 l4 h = some (r, h') → xx sc 136 10 [some (va_rf l0), some (.int l1), some (.int l2), some (.int l3), some (.int l4)] [] h (fun v g => v = some (.int r) ∧ g = h') := by
  intro f
  induction f with
  | zero => intro l0 l1 l2 l3 l4 h e; cases e
  | succ f ih =>
    intro l0 l1 l2 l3 l4 h e
    unfold b136_10 at e
    refine xo_iload rfl rfl ?_
    refine xo_aload_nQ (w := l0) rfl rfl ?_
    refine d_nn e (fun v1 g e1 => ?_)
    subst g
    replace e := e1
    clear e1
    refine d_getr rfl e (fun v2 e => ?_)
    refine xo_iload_n rfl rfl ?_
    refine d_nn e (fun v3 g e1 => ?_)
    subst g
    replace e := e1
    clear e1
    refine d_iald rfl e (fun v4 e => ?_)
    refine xo_aload_nQ (w := (some v1)) rfl rfl ?_
    refine d_getr rfl e (fun v5 e => ?_)
    refine xo_iload_n rfl rfl ?_
    refine d_nn e (fun v6 g e1 => ?_)
    subst g
    replace e := e1
    clear e1
    refine d_iald rfl e (fun v7 e => ?_)
    refine xo_iadd rfl ?_
    refine d_icmp_ge rfl rfl e (fun _ e => ?_) (fun _ e => ?_)
    · exact t136_58 e
    · exact t136_28 (fun a0 a1 a2 a3 a4 h e => ih a0 a1 a2 a3 a4 h e) e
def b136_0 (F : Nat) (l0 : Option Nat) (l1 : Int32) (l2 : Int32) : xm Int32 := mb (nn l0) fun v1 => mb (gr 906 v1) fun v2 => mb (nn v2) fun v3 => mb (li v3 l1) fun v4 => b136_10 F F (some v1) l1 l2 (0 : Int32) v4
theorem t136_0 {sc : Nat × (Nat → Int32)} {F : Nat} {r : Int32} {h' : xv_H} {l0 : Option Nat} {l1 : Int32} {l2 : Int32} {d3 d4 : Option Value} {h : xv_H} (e : b136_0 F l0 l1 l2 h = some (r, h')) : xx sc 136 0 [some (va_rf l0), some (.int l1), some (.int l2), d3, d4] [] h (fun v g => v = some (.int r) ∧ g = h') := by
  unfold b136_0 at e
  refine xo_iconstV (x := 0) rfl (by decide) ?_
  refine xo_istore_n rfl (Nat.le_of_ble_eq_true rfl) rfl ?_
  refine xo_aload_nQ (w := l0) rfl rfl ?_
  refine d_nn e (fun v1 g e1 => ?_)
  subst g
  replace e := e1
  clear e1
  refine d_getr rfl e (fun v2 e => ?_)
  refine xo_iload_n rfl rfl ?_
  refine d_nn e (fun v3 g e1 => ?_)
  subst g
  replace e := e1
  clear e1
  refine d_iald rfl e (fun v4 e => ?_)
  refine xo_istore rfl (Nat.le_of_ble_eq_true rfl) rfl ?_
  exact t136_10 F _ _ _ _ _ _ e
def m136 (F : Nat) (this : Nat) (p0 : Int32) (p1 : Int32) : xm Int32 := b136_0 F (some this) p0 p1
theorem t136 {sc : Nat × (Nat → Int32)} {F : Nat} {this : Nat} {p0 : Int32} {p1 : Int32} {h : xv_H} {r : Int32} {h' : xv_H} (e : m136 F this p0 p1 h = some (r, h')) : xr sc 136 [.ref this, .int p0, .int p1] h (fun v g => v = some (.int r) ∧ g = h') := by
  have e0 : xv_ent (xt_mx 136) [.ref this, .int p0, .int p1] = [some (va_rf (some this)), some (.int p0), some (.int p1), none, none] := by simp [xv_ent, xv_sl, va_rf_cat, cat_int, cat_long, cat_ref, cat_null, va_rf_some, show xt_mx 136 = 5 from rfl]
  unfold xr
  rw [e0]
  exact t136_0 e
-- CellTreeModel.parts(I)I
def b135_43 (F : Nat) (s0 : Int32) (s1 : Int32) : xm Int32 := mr (s1 + s0)
theorem t135_43 {sc : Nat × (Nat → Int32)} {F : Nat} {r : Int32} {h' : xv_H} {s0 : Int32} {s1 : Int32} {d0 d1 : Option Value} {h : xv_H} (e : b135_43 F s0 s1 h = some (r, h')) : xx sc 135 43 [d0, d1] [.int s0, .int s1] h (fun v g => v = some (.int r) ∧ g = h') := by
  unfold b135_43 at e
  refine xo_iadd rfl ?_
  exact d_iret rfl e
def b135_42 (F : Nat) (s0 : Int32) : xm Int32 := b135_43 F (0 : Int32) s0
theorem t135_42 {sc : Nat × (Nat → Int32)} {F : Nat} {r : Int32} {h' : xv_H} {s0 : Int32} {d0 d1 : Option Value} {h : xv_H} (e : b135_42 F s0 h = some (r, h')) : xx sc 135 42 [d0, d1] [.int s0] h (fun v g => v = some (.int r) ∧ g = h') := by
  unfold b135_42 at e
  refine xo_iconstV (x := 0) rfl (by decide) ?_
  exact t135_43 e
def b135_38 (F : Nat) (s0 : Int32) : xm Int32 := b135_43 F (1 : Int32) s0
theorem t135_38 {sc : Nat × (Nat → Int32)} {F : Nat} {r : Int32} {h' : xv_H} {s0 : Int32} {d0 d1 : Option Value} {h : xv_H} (e : b135_38 F s0 h = some (r, h')) : xx sc 135 38 [d0, d1] [.int s0] h (fun v g => v = some (.int r) ∧ g = h') := by
  unfold b135_38 at e
  refine xo_iconstV (x := 1) rfl (by decide) ?_
  refine xo_goto rfl rfl ?_
  exact t135_43 e
def b135_28 (F : Nat) (s0 : Int32) (s1 : Int32) (l0 : Option Nat) (l1 : Int32) : xm Int32 := mb (nn l0) fun v1 => mb (vc 9 v1) fun _ => mb (m136 F v1 l1 (2 : Int32)) fun v2 => if v2 = 0 then b135_42 F (s1 + s0) else b135_38 F (s1 + s0)
theorem t135_28 {sc : Nat × (Nat → Int32)} {F : Nat} {r : Int32} {h' : xv_H} {s0 : Int32} {s1 : Int32} {l0 : Option Nat} {l1 : Int32} {h : xv_H} (e : b135_28 F s0 s1 l0 l1 h = some (r, h')) : xx sc 135 28 [some (va_rf l0), some (.int l1)] [.int s0, .int s1] h (fun v g => v = some (.int r) ∧ g = h') := by
  unfold b135_28 at e
  refine xo_iadd rfl ?_
  refine xo_aload_nQ (w := l0) rfl rfl ?_
  refine xo_iload_n rfl rfl ?_
  refine xo_iconstV (x := 2) rfl (by decide) ?_
  refine d_nn e (fun v1 g e1 => ?_)
  subst g
  replace e := e1
  clear e1
  refine d_virtual_i (av := [.int l1, .int (2 : Int32)]) (rest := [.int (s1 + s0)]) rfl ⟨by decide, by decide⟩ rfl rfl (by simp [xv_fit, va_rf_cat, cat_int, cat_long, cat_ref, cat_null, show xt_mx 136 = 5 from rfl, show xt_lg 136 = [] from rfl]) (by simp [xv_room, va_rf_cat, cat_int, cat_long, cat_ref, cat_null]) (fun x0 h1 e1 => t136 e1) e (fun v2 h e => ?_)
  refine d_if_eq rfl rfl e (fun _ e => ?_) (fun _ e => ?_)
  · exact t135_42 e
  · exact t135_38 e
def b135_27 (F : Nat) (s0 : Int32) (l0 : Option Nat) (l1 : Int32) : xm Int32 := b135_28 F (0 : Int32) s0 l0 l1
theorem t135_27 {sc : Nat × (Nat → Int32)} {F : Nat} {r : Int32} {h' : xv_H} {s0 : Int32} {l0 : Option Nat} {l1 : Int32} {h : xv_H} (e : b135_27 F s0 l0 l1 h = some (r, h')) : xx sc 135 27 [some (va_rf l0), some (.int l1)] [.int s0] h (fun v g => v = some (.int r) ∧ g = h') := by
  unfold b135_27 at e
  refine xo_iconstV (x := 0) rfl (by decide) ?_
  exact t135_28 e
def b135_23 (F : Nat) (s0 : Int32) (l0 : Option Nat) (l1 : Int32) : xm Int32 := b135_28 F (1 : Int32) s0 l0 l1
theorem t135_23 {sc : Nat × (Nat → Int32)} {F : Nat} {r : Int32} {h' : xv_H} {s0 : Int32} {l0 : Option Nat} {l1 : Int32} {h : xv_H} (e : b135_23 F s0 l0 l1 h = some (r, h')) : xx sc 135 23 [some (va_rf l0), some (.int l1)] [.int s0] h (fun v g => v = some (.int r) ∧ g = h') := by
  unfold b135_23 at e
  refine xo_iconstV (x := 1) rfl (by decide) ?_
  refine xo_goto rfl rfl ?_
  exact t135_28 e
def b135_14 (F : Nat) (s0 : Int32) (l0 : Option Nat) (l1 : Int32) : xm Int32 := mb (nn l0) fun v1 => mb (vc 9 v1) fun _ => mb (m136 F v1 l1 (1 : Int32)) fun v2 => if v2 = 0 then b135_27 F s0 (some v1) l1 else b135_23 F s0 (some v1) l1
theorem t135_14 {sc : Nat × (Nat → Int32)} {F : Nat} {r : Int32} {h' : xv_H} {s0 : Int32} {l0 : Option Nat} {l1 : Int32} {h : xv_H} (e : b135_14 F s0 l0 l1 h = some (r, h')) : xx sc 135 14 [some (va_rf l0), some (.int l1)] [.int s0] h (fun v g => v = some (.int r) ∧ g = h') := by
  unfold b135_14 at e
  refine xo_aload_nQ (w := l0) rfl rfl ?_
  refine xo_iload_n rfl rfl ?_
  refine xo_iconstV (x := 1) rfl (by decide) ?_
  refine d_nn e (fun v1 g e1 => ?_)
  subst g
  replace e := e1
  clear e1
  refine d_virtual_i (av := [.int l1, .int (1 : Int32)]) (rest := [.int s0]) rfl ⟨by decide, by decide⟩ rfl rfl (by simp [xv_fit, va_rf_cat, cat_int, cat_long, cat_ref, cat_null, show xt_mx 136 = 5 from rfl, show xt_lg 136 = [] from rfl]) (by simp [xv_room, va_rf_cat, cat_int, cat_long, cat_ref, cat_null]) (fun x0 h1 e1 => t136 e1) e (fun v2 h e => ?_)
  refine d_if_eq rfl rfl e (fun _ e => ?_) (fun _ e => ?_)
  · exact t135_27 e
  · exact t135_23 e
def b135_13 (F : Nat) (l0 : Option Nat) (l1 : Int32) : xm Int32 := b135_14 F (0 : Int32) l0 l1
theorem t135_13 {sc : Nat × (Nat → Int32)} {F : Nat} {r : Int32} {h' : xv_H} {l0 : Option Nat} {l1 : Int32} {h : xv_H} (e : b135_13 F l0 l1 h = some (r, h')) : xx sc 135 13 [some (va_rf l0), some (.int l1)] [] h (fun v g => v = some (.int r) ∧ g = h') := by
  unfold b135_13 at e
  refine xo_iconstV (x := 0) rfl (by decide) ?_
  exact t135_14 e
def b135_9 (F : Nat) (l0 : Option Nat) (l1 : Int32) : xm Int32 := b135_14 F (1 : Int32) l0 l1
theorem t135_9 {sc : Nat × (Nat → Int32)} {F : Nat} {r : Int32} {h' : xv_H} {l0 : Option Nat} {l1 : Int32} {h : xv_H} (e : b135_9 F l0 l1 h = some (r, h')) : xx sc 135 9 [some (va_rf l0), some (.int l1)] [] h (fun v g => v = some (.int r) ∧ g = h') := by
  unfold b135_9 at e
  refine xo_iconstV (x := 1) rfl (by decide) ?_
  refine xo_goto rfl rfl ?_
  exact t135_14 e
def b135_0 (F : Nat) (l0 : Option Nat) (l1 : Int32) : xm Int32 := mb (nn l0) fun v1 => mb (vc 9 v1) fun _ => mb (m136 F v1 l1 (0 : Int32)) fun v2 => if v2 = 0 then b135_13 F (some v1) l1 else b135_9 F (some v1) l1
theorem t135_0 {sc : Nat × (Nat → Int32)} {F : Nat} {r : Int32} {h' : xv_H} {l0 : Option Nat} {l1 : Int32} {h : xv_H} (e : b135_0 F l0 l1 h = some (r, h')) : xx sc 135 0 [some (va_rf l0), some (.int l1)] [] h (fun v g => v = some (.int r) ∧ g = h') := by
  unfold b135_0 at e
  refine xo_aload_nQ (w := l0) rfl rfl ?_
  refine xo_iload_n rfl rfl ?_
  refine xo_iconstV (x := 0) rfl (by decide) ?_
  refine d_nn e (fun v1 g e1 => ?_)
  subst g
  replace e := e1
  clear e1
  refine d_virtual_i (av := [.int l1, .int (0 : Int32)]) (rest := []) rfl ⟨by decide, by decide⟩ rfl rfl (by simp [xv_fit, va_rf_cat, cat_int, cat_long, cat_ref, cat_null, show xt_mx 136 = 5 from rfl, show xt_lg 136 = [] from rfl]) (by simp [xv_room, va_rf_cat, cat_int, cat_long, cat_ref, cat_null]) (fun x0 h1 e1 => t136 e1) e (fun v2 h e => ?_)
  refine d_if_eq rfl rfl e (fun _ e => ?_) (fun _ e => ?_)
  · exact t135_13 e
  · exact t135_9 e
def m135 (F : Nat) (this : Nat) (p0 : Int32) : xm Int32 := b135_0 F (some this) p0
theorem t135 {sc : Nat × (Nat → Int32)} {F : Nat} {this : Nat} {p0 : Int32} {h : xv_H} {r : Int32} {h' : xv_H} (e : m135 F this p0 h = some (r, h')) : xr sc 135 [.ref this, .int p0] h (fun v g => v = some (.int r) ∧ g = h') := by
  have e0 : xv_ent (xt_mx 135) [.ref this, .int p0] = [some (va_rf (some this)), some (.int p0)] := by simp [xv_ent, xv_sl, va_rf_cat, cat_int, cat_long, cat_ref, cat_null, va_rf_some, show xt_mx 135 = 2 from rfl]
  unfold xr
  rw [e0]
  exact t135_0 e
-- CellTreeModel.carryOut(II)V
def b137_130 (F : Nat) : xm Unit := mr ()
theorem t137_130 {sc : Nat × (Nat → Int32)} {F : Nat} {r : Unit} {h' : xv_H} {d0 d1 d2 d3 d4 d5 : Option Value} {h : xv_H} (e : b137_130 F h = some (r, h')) : xx sc 137 130 [d0, d1, d2, d3, d4, d5] [] h (fun v g => v = none ∧ g = h') := by
  unfold b137_130 at e
  exact d_ret rfl e
def b137_124 (k18 : Option Nat → Int32 → Int32 → Int32 → xm Unit) (F : Nat) (l0 : Option Nat) (l1 : Int32) (l2 : Int32) (l3 : Int32) : xm Unit := k18 l0 l1 l2 (l3 + (1 : Int32))
theorem t137_124 {sc : Nat × (Nat → Int32)} {F : Nat} {r : Unit} {h' : xv_H} {k18 : Option Nat → Int32 → Int32 → Int32 → xm Unit} (hk18 : ∀ (l0 : Option Nat) (l1 : Int32) (l2 : Int32) (l3 : Int32) (d4 d5 : Option Value) (h : xv_H), k18 l0 l1 l2 l3 h = some (r, h') → xx sc 137 18 [some (va_rf l0), some (.int l1), some (.int l2), some (.int l3), d4, d5] [] h (fun v g => v = none ∧ g = h')) {l0 : Option Nat} {l1 : Int32} {l2 : Int32} {l3 : Int32} {d4 d5 : Option Value} {h : xv_H} (e : b137_124 k18 F l0 l1 l2 l3 h = some (r, h')) : xx sc 137 124 [some (va_rf l0), some (.int l1), some (.int l2), some (.int l3), d4, d5] [] h (fun v g => v = none ∧ g = h') := by
  unfold b137_124 at e
  refine xo_iincV (z := 1) rfl (by decide) rfl (Nat.le_of_ble_eq_true rfl) rfl ?_
  refine xo_goto rfl rfl ?_
  exact hk18 _ _ _ _ _ _ _ e
def b137_113 (k18 : Option Nat → Int32 → Int32 → Int32 → xm Unit) (F : Nat) (l0 : Option Nat) (l1 : Int32) (l2 : Int32) (l3 : Int32) (l4 : Int32) : xm Unit := mb (nn l0) fun v1 => mb (gr 902 v1) fun v2 => mb (nn v2) fun v3 => mb (li v3 l4) fun v4 => mb (si v3 l4 (v4 + (1 : Int32))) fun _ => b137_124 k18 F (some v1) l1 l2 l3
theorem t137_113 {sc : Nat × (Nat → Int32)} {F : Nat} {r : Unit} {h' : xv_H} {k18 : Option Nat → Int32 → Int32 → Int32 → xm Unit} (hk18 : ∀ (l0 : Option Nat) (l1 : Int32) (l2 : Int32) (l3 : Int32) (d4 d5 : Option Value) (h : xv_H), k18 l0 l1 l2 l3 h = some (r, h') → xx sc 137 18 [some (va_rf l0), some (.int l1), some (.int l2), some (.int l3), d4, d5] [] h (fun v g => v = none ∧ g = h')) {l0 : Option Nat} {l1 : Int32} {l2 : Int32} {l3 : Int32} {l4 : Int32} {d5 : Option Value} {h : xv_H} (e : b137_113 k18 F l0 l1 l2 l3 l4 h = some (r, h')) : xx sc 137 113 [some (va_rf l0), some (.int l1), some (.int l2), some (.int l3), some (.int l4), d5] [] h (fun v g => v = none ∧ g = h') := by
  unfold b137_113 at e
  refine xo_aload_nQ (w := l0) rfl rfl ?_
  refine d_nn e (fun v1 g e1 => ?_)
  subst g
  replace e := e1
  clear e1
  refine d_getr rfl e (fun v2 e => ?_)
  refine xo_iload rfl rfl ?_
  refine xo_dup2 rfl (by first | rfl | exact va_rf_cat _) (by first | rfl | exact va_rf_cat _) ?_
  refine d_nn e (fun v3 g e1 => ?_)
  subst g
  replace e := e1
  clear e1
  refine d_iald rfl e (fun v4 e => ?_)
  refine xo_iconstV (x := 1) rfl (by decide) ?_
  refine xo_iadd rfl ?_
  refine d_iast rfl e (fun h e => ?_)
  exact t137_124 hk18 e
def b137_84 (k18 : Option Nat → Int32 → Int32 → Int32 → xm Unit) (k78 : Option Nat → Int32 → Int32 → Int32 → Int32 → Int32 → xm Unit) (F : Nat) (l0 : Option Nat) (l1 : Int32) (l2 : Int32) (l3 : Int32) (l4 : Int32) (l5 : Int32) : xm Unit := mb (nn l0) fun v1 => mb (gr 903 v1) fun v2 => mb (gr 914 v1) fun v3 => mb (nn v3) fun v4 => mb (li v4 (((3 : Int32) * l3) + l5)) fun v5 => mb (nn v2) fun v6 => mb (si v6 (((3 : Int32) * l4) + l5) v5) fun _ => k78 (some v1) l1 l2 l3 l4 (l5 + (1 : Int32))
theorem t137_84 {sc : Nat × (Nat → Int32)} {F : Nat} {r : Unit} {h' : xv_H} {k18 : Option Nat → Int32 → Int32 → Int32 → xm Unit} {k78 : Option Nat → Int32 → Int32 → Int32 → Int32 → Int32 → xm Unit} (hk18 : ∀ (l0 : Option Nat) (l1 : Int32) (l2 : Int32) (l3 : Int32) (d4 d5 : Option Value) (h : xv_H), k18 l0 l1 l2 l3 h = some (r, h') → xx sc 137 18 [some (va_rf l0), some (.int l1), some (.int l2), some (.int l3), d4, d5] [] h (fun v g => v = none ∧ g = h')) (hk78 : ∀ (l0 : Option Nat) (l1 : Int32) (l2 : Int32) (l3 : Int32) (l4 : Int32) (l5 : Int32) (h : xv_H), k78 l0 l1 l2 l3 l4 l5 h = some (r, h') → xx sc 137 78 [some (va_rf l0), some (.int l1), some (.int l2), some (.int l3), some (.int l4), some (.int l5)] [] h (fun v g => v = none ∧ g = h')) {l0 : Option Nat} {l1 : Int32} {l2 : Int32} {l3 : Int32} {l4 : Int32} {l5 : Int32} {h : xv_H} (e : b137_84 k18 k78 F l0 l1 l2 l3 l4 l5 h = some (r, h')) : xx sc 137 84 [some (va_rf l0), some (.int l1), some (.int l2), some (.int l3), some (.int l4), some (.int l5)] [] h (fun v g => v = none ∧ g = h') := by
  unfold b137_84 at e
  refine xo_aload_nQ (w := l0) rfl rfl ?_
  refine d_nn e (fun v1 g e1 => ?_)
  subst g
  replace e := e1
  clear e1
  refine d_getr rfl e (fun v2 e => ?_)
  refine xo_iconstV (x := 3) rfl (by decide) ?_
  refine xo_iload rfl rfl ?_
  refine xo_imul rfl ?_
  refine xo_iload rfl rfl ?_
  refine xo_iadd rfl ?_
  refine xo_aload_nQ (w := (some v1)) rfl rfl ?_
  refine d_getr rfl e (fun v3 e => ?_)
  refine xo_iconstV (x := 3) rfl (by decide) ?_
  refine xo_iload_n rfl rfl ?_
  refine xo_imul rfl ?_
  refine xo_iload rfl rfl ?_
  refine xo_iadd rfl ?_
  refine d_nn e (fun v4 g e1 => ?_)
  subst g
  replace e := e1
  clear e1
  refine d_iald rfl e (fun v5 e => ?_)
  refine d_nn e (fun v6 g e1 => ?_)
  subst g
  replace e := e1
  clear e1
  refine d_iast rfl e (fun h e => ?_)
  refine xo_iincV (z := 1) rfl (by decide) rfl (Nat.le_of_ble_eq_true rfl) rfl ?_
  refine xo_goto rfl rfl ?_
  exact hk78 _ _ _ _ _ _ _ e
def b137_78 (k18 : Option Nat → Int32 → Int32 → Int32 → xm Unit) (F : Nat) : Nat → Option Nat → Int32 → Int32 → Int32 → Int32 → Int32 → xm Unit
  | 0, _, _, _, _, _, _ => fun _ => none
  | f + 1, l0, l1, l2, l3, l4, l5 => if (3 : Int32) ≤ l5 then b137_113 k18 F l0 l1 l2 l3 l4 else b137_84 k18 (b137_78 k18 F f) F l0 l1 l2 l3 l4 l5
theorem t137_78 {sc : Nat × (Nat → Int32)} {F : Nat} {r : Unit} {h' : xv_H} {k18 : Option Nat → Int32 → Int32 → Int32 → xm Unit} (hk18 : ∀ (l0 : Option Nat) (l1 : Int32) (l2 : Int32) (l3 : Int32) (d4 d5 : Option Value) (h : xv_H), k18 l0 l1 l2 l3 h = some (r, h') → xx sc 137 18 [some (va_rf l0), some (.int l1), some (.int l2), some (.int l3), d4, d5] [] h (fun v g => v = none ∧ g = h')) : ∀ (f : Nat) (l0 : Option Nat) (l1 : Int32) (l2 : Int32) (l3 : Int32) (l4 : Int32) (l5 : Int32) (h : xv_H), b137_78 k18 F f l0 l1 l2 l3 l4 l5 h = some (r, h') → xx sc 137 78 [some (va_rf l0), some (.int l1), some (.int l2), some (.int l3), some (.int l4), some (.int l5)] [] h (fun v g => v = none ∧ g = h') := by
  intro f
  induction f with
  | zero => intro l0 l1 l2 l3 l4 l5 h e; cases e
  | succ f ih =>
    intro l0 l1 l2 l3 l4 l5 h e
    unfold b137_78 at e
    refine xo_iload rfl rfl ?_
    refine xo_iconstV (x := 3) rfl (by decide) ?_
    refine d_icmp_ge rfl rfl e (fun _ e => ?_) (fun _ e => ?_)
    · exact t137_113 hk18 e
    · exact t137_84 hk18 (fun a0 a1 a2 a3 a4 a5 h e => ih a0 a1 a2 a3 a4 a5 h e) e
def b137_62 (k18 : Option Nat → Int32 → Int32 → Int32 → xm Unit) (F : Nat) (l0 : Option Nat) (l1 : Int32) (l2 : Int32) (l3 : Int32) (l4 : Int32) : xm Unit := mb (nn l0) fun v1 => mb (gr 901 v1) fun v2 => mb (gr 913 v1) fun v3 => mb (nn v3) fun v4 => mb (ll v4 l3) fun v5 => mb (nn v2) fun v6 => mb (sl v6 l4 v5) fun _ => b137_78 k18 F F (some v1) l1 l2 l3 l4 (0 : Int32)
theorem t137_62 {sc : Nat × (Nat → Int32)} {F : Nat} {r : Unit} {h' : xv_H} {k18 : Option Nat → Int32 → Int32 → Int32 → xm Unit} (hk18 : ∀ (l0 : Option Nat) (l1 : Int32) (l2 : Int32) (l3 : Int32) (d4 d5 : Option Value) (h : xv_H), k18 l0 l1 l2 l3 h = some (r, h') → xx sc 137 18 [some (va_rf l0), some (.int l1), some (.int l2), some (.int l3), d4, d5] [] h (fun v g => v = none ∧ g = h')) {l0 : Option Nat} {l1 : Int32} {l2 : Int32} {l3 : Int32} {l4 : Int32} {d5 : Option Value} {h : xv_H} (e : b137_62 k18 F l0 l1 l2 l3 l4 h = some (r, h')) : xx sc 137 62 [some (va_rf l0), some (.int l1), some (.int l2), some (.int l3), some (.int l4), d5] [] h (fun v g => v = none ∧ g = h') := by
  unfold b137_62 at e
  refine xo_aload_nQ (w := l0) rfl rfl ?_
  refine d_nn e (fun v1 g e1 => ?_)
  subst g
  replace e := e1
  clear e1
  refine d_getr rfl e (fun v2 e => ?_)
  refine xo_iload rfl rfl ?_
  refine xo_aload_nQ (w := (some v1)) rfl rfl ?_
  refine d_getr rfl e (fun v3 e => ?_)
  refine xo_iload_n rfl rfl ?_
  refine d_nn e (fun v4 g e1 => ?_)
  subst g
  replace e := e1
  clear e1
  refine d_lald rfl e (fun v5 e => ?_)
  refine d_nn e (fun v6 g e1 => ?_)
  subst g
  replace e := e1
  clear e1
  refine d_last rfl e (fun h e => ?_)
  refine xo_iconstV (x := 0) rfl (by decide) ?_
  refine xo_istore rfl (Nat.le_of_ble_eq_true rfl) rfl ?_
  exact t137_78 hk18 F _ _ _ _ _ _ _ e
def b137_52 (k18 : Option Nat → Int32 → Int32 → Int32 → xm Unit) (F : Nat) (l0 : Option Nat) (l1 : Int32) (l2 : Int32) (l3 : Int32) (l4 : Int32) : xm Unit := mb (nn l0) fun v1 => mb (gr 910 v1) fun v2 => mb (nn v2) fun v3 => mb (lb v3 l3) fun v4 => if v4 < (3 : Int32) then b137_124 k18 F (some v1) l1 l2 l3 else b137_62 k18 F (some v1) l1 l2 l3 l4
theorem t137_52 {sc : Nat × (Nat → Int32)} {F : Nat} {r : Unit} {h' : xv_H} {k18 : Option Nat → Int32 → Int32 → Int32 → xm Unit} (hk18 : ∀ (l0 : Option Nat) (l1 : Int32) (l2 : Int32) (l3 : Int32) (d4 d5 : Option Value) (h : xv_H), k18 l0 l1 l2 l3 h = some (r, h') → xx sc 137 18 [some (va_rf l0), some (.int l1), some (.int l2), some (.int l3), d4, d5] [] h (fun v g => v = none ∧ g = h')) {l0 : Option Nat} {l1 : Int32} {l2 : Int32} {l3 : Int32} {l4 : Int32} {d5 : Option Value} {h : xv_H} (e : b137_52 k18 F l0 l1 l2 l3 l4 h = some (r, h')) : xx sc 137 52 [some (va_rf l0), some (.int l1), some (.int l2), some (.int l3), some (.int l4), d5] [] h (fun v g => v = none ∧ g = h') := by
  unfold b137_52 at e
  refine xo_aload_nQ (w := l0) rfl rfl ?_
  refine d_nn e (fun v1 g e1 => ?_)
  subst g
  replace e := e1
  clear e1
  refine d_getr rfl e (fun v2 e => ?_)
  refine xo_iload_n rfl rfl ?_
  refine d_nn e (fun v3 g e1 => ?_)
  subst g
  replace e := e1
  clear e1
  refine d_bald rfl e (fun v4 e => ?_)
  refine xo_iconstV (x := 3) rfl (by decide) ?_
  refine d_icmp_lt rfl rfl e (fun _ e => ?_) (fun _ e => ?_)
  · exact t137_124 hk18 e
  · exact t137_62 hk18 e
def b137_35 (k18 : Option Nat → Int32 → Int32 → Int32 → xm Unit) (F : Nat) (l0 : Option Nat) (l1 : Int32) (l2 : Int32) (l3 : Int32) : xm Unit := mb (nn l0) fun v1 => mb (gr 911 v1) fun v2 => mb (nn v2) fun v3 => mb (lb v3 l3) fun v4 => mb (dz (8 : Int32)) fun _ => if ¬ (v4 / (8 : Int32)) = l2 then b137_124 k18 F (some v1) l1 l2 l3 else b137_52 k18 F (some v1) l1 l2 l3 v4
theorem t137_35 {sc : Nat × (Nat → Int32)} {F : Nat} {r : Unit} {h' : xv_H} {k18 : Option Nat → Int32 → Int32 → Int32 → xm Unit} (hk18 : ∀ (l0 : Option Nat) (l1 : Int32) (l2 : Int32) (l3 : Int32) (d4 d5 : Option Value) (h : xv_H), k18 l0 l1 l2 l3 h = some (r, h') → xx sc 137 18 [some (va_rf l0), some (.int l1), some (.int l2), some (.int l3), d4, d5] [] h (fun v g => v = none ∧ g = h')) {l0 : Option Nat} {l1 : Int32} {l2 : Int32} {l3 : Int32} {d4 d5 : Option Value} {h : xv_H} (e : b137_35 k18 F l0 l1 l2 l3 h = some (r, h')) : xx sc 137 35 [some (va_rf l0), some (.int l1), some (.int l2), some (.int l3), d4, d5] [] h (fun v g => v = none ∧ g = h') := by
  unfold b137_35 at e
  refine xo_aload_nQ (w := l0) rfl rfl ?_
  refine d_nn e (fun v1 g e1 => ?_)
  subst g
  replace e := e1
  clear e1
  refine d_getr rfl e (fun v2 e => ?_)
  refine xo_iload_n rfl rfl ?_
  refine d_nn e (fun v3 g e1 => ?_)
  subst g
  replace e := e1
  clear e1
  refine d_bald rfl e (fun v4 e => ?_)
  refine xo_istore rfl (Nat.le_of_ble_eq_true rfl) rfl ?_
  refine xo_iload rfl rfl ?_
  refine xo_bipushV (x := 8) rfl (by decide) ?_
  refine d_idiv rfl e (fun e => ?_)
  refine xo_iload_n rfl rfl ?_
  refine d_icmp_ne rfl rfl e (fun _ e => ?_) (fun _ e => ?_)
  · exact t137_124 hk18 e
  · exact t137_52 hk18 e
def b137_18 (F : Nat) : Nat → Option Nat → Int32 → Int32 → Int32 → xm Unit
  | 0, _, _, _, _ => fun _ => none
  | f + 1, l0, l1, l2, l3 => mb (nn l0) fun v1 => mb (gr 906 v1) fun v2 => mb (nn v2) fun v3 => mb (li v3 l1) fun v4 => mb (gr 907 v1) fun v5 => mb (nn v5) fun v6 => mb (li v6 l1) fun v7 => if (v4 + v7) ≤ l3 then b137_130 F else b137_35 (b137_18 F f) F (some v1) l1 l2 l3
theorem t137_18 {sc : Nat × (Nat → Int32)} {F : Nat} {r : Unit} {h' : xv_H} : ∀ (f : Nat) (l0 : Option Nat) (l1 : Int32) (l2 : Int32) (l3 : Int32) (d4 d5 : Option Value) (h : xv_H), b137_18 F f l0 l1 l2 l3 h = some (r, h') → xx sc 137 18 [some (va_rf l0), some (.int l1), some (.int l2), some (.int l3), d4, d5] [] h (fun v g => v = none ∧ g = h') := by
  intro f
  induction f with
  | zero => intro l0 l1 l2 l3 d4 d5 h e; cases e
  | succ f ih =>
    intro l0 l1 l2 l3 d4 d5 h e
    unfold b137_18 at e
    refine xo_iload_n rfl rfl ?_
    refine xo_aload_nQ (w := l0) rfl rfl ?_
    refine d_nn e (fun v1 g e1 => ?_)
    subst g
    replace e := e1
    clear e1
    refine d_getr rfl e (fun v2 e => ?_)
    refine xo_iload_n rfl rfl ?_
    refine d_nn e (fun v3 g e1 => ?_)
    subst g
    replace e := e1
    clear e1
    refine d_iald rfl e (fun v4 e => ?_)
    refine xo_aload_nQ (w := (some v1)) rfl rfl ?_
    refine d_getr rfl e (fun v5 e => ?_)
    refine xo_iload_n rfl rfl ?_
    refine d_nn e (fun v6 g e1 => ?_)
    subst g
    replace e := e1
    clear e1
    refine d_iald rfl e (fun v7 e => ?_)
    refine xo_iadd rfl ?_
    refine d_icmp_ge rfl rfl e (fun _ e => ?_) (fun _ e => ?_)
    · exact t137_130 e
    · exact t137_35 (fun a0 a1 a2 a3 a4 a5 h e => ih a0 a1 a2 a3 a4 a5 h e) e
def b137_0 (F : Nat) (l0 : Option Nat) (l1 : Int32) (l2 : Int32) : xm Unit := mb (nn l0) fun v1 => mb (gr 908 v1) fun v2 => mb (nn v2) fun v3 => mb (sb v3 (((3 : Int32) * l1) + l2) (2 : Int32)) fun _ => mb (gr 906 v1) fun v4 => mb (nn v4) fun v5 => mb (li v5 l1) fun v6 => b137_18 F F (some v1) l1 l2 v6
theorem t137_0 {sc : Nat × (Nat → Int32)} {F : Nat} {r : Unit} {h' : xv_H} {l0 : Option Nat} {l1 : Int32} {l2 : Int32} {d3 d4 d5 : Option Value} {h : xv_H} (e : b137_0 F l0 l1 l2 h = some (r, h')) : xx sc 137 0 [some (va_rf l0), some (.int l1), some (.int l2), d3, d4, d5] [] h (fun v g => v = none ∧ g = h') := by
  unfold b137_0 at e
  refine xo_aload_nQ (w := l0) rfl rfl ?_
  refine d_nn e (fun v1 g e1 => ?_)
  subst g
  replace e := e1
  clear e1
  refine d_getr rfl e (fun v2 e => ?_)
  refine xo_iconstV (x := 3) rfl (by decide) ?_
  refine xo_iload_n rfl rfl ?_
  refine xo_imul rfl ?_
  refine xo_iload_n rfl rfl ?_
  refine xo_iadd rfl ?_
  refine xo_iconstV (x := 2) rfl (by decide) ?_
  refine d_nn e (fun v3 g e1 => ?_)
  subst g
  replace e := e1
  clear e1
  refine d_bast rfl e (fun h e => ?_)
  refine xo_aload_nQ (w := (some v1)) rfl rfl ?_
  refine d_getr rfl e (fun v4 e => ?_)
  refine xo_iload_n rfl rfl ?_
  refine d_nn e (fun v5 g e1 => ?_)
  subst g
  replace e := e1
  clear e1
  refine d_iald rfl e (fun v6 e => ?_)
  refine xo_istore_n rfl (Nat.le_of_ble_eq_true rfl) rfl ?_
  exact t137_18 F _ _ _ _ _ _ _ e
def m137 (F : Nat) (this : Nat) (p0 : Int32) (p1 : Int32) : xm Unit := b137_0 F (some this) p0 p1
theorem t137 {sc : Nat × (Nat → Int32)} {F : Nat} {this : Nat} {p0 : Int32} {p1 : Int32} {h : xv_H} {r : Unit} {h' : xv_H} (e : m137 F this p0 p1 h = some (r, h')) : xr sc 137 [.ref this, .int p0, .int p1] h (fun v g => v = none ∧ g = h') := by
  have e0 : xv_ent (xt_mx 137) [.ref this, .int p0, .int p1] = [some (va_rf (some this)), some (.int p0), some (.int p1), none, none, none] := by simp [xv_ent, xv_sl, va_rf_cat, cat_int, cat_long, cat_ref, cat_null, va_rf_some, show xt_mx 137 = 6 from rfl]
  unfold xr
  rw [e0]
  exact t137_0 e
-- CellTreeModel.prepare(II)V
def b130_317 (F : Nat) (s0 : Int32) (s1 : Option Nat) (l1 : Int32) (l2 : Int32) : xm Unit := mb (nn s1) fun v1 => mb (vc 9 v1) fun _ => mb (m132 F v1 s0 l1 l2) fun v2 => mr ()
theorem t130_317 {sc : Nat × (Nat → Int32)} {F : Nat} {r : Unit} {h' : xv_H} {s0 : Int32} {s1 : Option Nat} {l1 : Int32} {l2 : Int32} {d0 d3 d4 d5 d6 d7 : Option Value} {h : xv_H} (e : b130_317 F s0 s1 l1 l2 h = some (r, h')) : xx sc 130 317 [d0, some (.int l1), some (.int l2), d3, d4, d5, d6, d7] [.int s0, va_rf s1] h (fun v g => v = none ∧ g = h') := by
  unfold b130_317 at e
  refine xo_iload_n rfl rfl ?_
  refine xo_iload_n rfl rfl ?_
  refine d_nn e (fun v1 g e1 => ?_)
  subst g
  replace e := e1
  clear e1
  refine d_virtual_i (av := [.int s0, .int l1, .int l2]) (rest := []) rfl ⟨by decide, by decide⟩ rfl rfl (by simp [xv_fit, va_rf_cat, cat_int, cat_long, cat_ref, cat_null, show xt_mx 132 = 4 from rfl, show xt_lg 132 = [] from rfl]) (by simp [xv_room, va_rf_cat, cat_int, cat_long, cat_ref, cat_null]) (fun x0 h1 e1 => t132 e1) e (fun v2 h e => ?_)
  refine xo_pop rfl (by first | rfl | exact va_rf_cat _) ?_
  exact d_ret rfl e
def b130_316 (F : Nat) (s0 : Option Nat) (l1 : Int32) (l2 : Int32) : xm Unit := b130_317 F (3 : Int32) s0 l1 l2
theorem t130_316 {sc : Nat × (Nat → Int32)} {F : Nat} {r : Unit} {h' : xv_H} {s0 : Option Nat} {l1 : Int32} {l2 : Int32} {d0 d3 d4 d5 d6 d7 : Option Value} {h : xv_H} (e : b130_316 F s0 l1 l2 h = some (r, h')) : xx sc 130 316 [d0, some (.int l1), some (.int l2), d3, d4, d5, d6, d7] [va_rf s0] h (fun v g => v = none ∧ g = h') := by
  unfold b130_316 at e
  refine xo_iconstV (x := 3) rfl (by decide) ?_
  exact t130_317 e
def b130_312 (F : Nat) (s0 : Option Nat) (l1 : Int32) (l2 : Int32) : xm Unit := b130_317 F (2 : Int32) s0 l1 l2
theorem t130_312 {sc : Nat × (Nat → Int32)} {F : Nat} {r : Unit} {h' : xv_H} {s0 : Option Nat} {l1 : Int32} {l2 : Int32} {d0 d3 d4 d5 d6 d7 : Option Value} {h : xv_H} (e : b130_312 F s0 l1 l2 h = some (r, h')) : xx sc 130 312 [d0, some (.int l1), some (.int l2), d3, d4, d5, d6, d7] [va_rf s0] h (fun v g => v = none ∧ g = h') := by
  unfold b130_312 at e
  refine xo_iconstV (x := 2) rfl (by decide) ?_
  refine xo_goto rfl rfl ?_
  exact t130_317 e
def b130_306 (F : Nat) (l0 : Option Nat) (l1 : Int32) (l2 : Int32) (l5 : Int32) : xm Unit := if l5 = 0 then b130_316 F l0 l1 l2 else b130_312 F l0 l1 l2
theorem t130_306 {sc : Nat × (Nat → Int32)} {F : Nat} {r : Unit} {h' : xv_H} {l0 : Option Nat} {l1 : Int32} {l2 : Int32} {l5 : Int32} {d3 d4 d6 d7 : Option Value} {h : xv_H} (e : b130_306 F l0 l1 l2 l5 h = some (r, h')) : xx sc 130 306 [some (va_rf l0), some (.int l1), some (.int l2), d3, d4, some (.int l5), d6, d7] [] h (fun v g => v = none ∧ g = h') := by
  unfold b130_306 at e
  refine xo_aload_nQ (w := l0) rfl rfl ?_
  refine xo_iload rfl rfl ?_
  refine d_if_eq rfl rfl e (fun _ e => ?_) (fun _ e => ?_)
  · exact t130_316 e
  · exact t130_312 e
def b130_300 (F : Nat) (l0 : Option Nat) (l1 : Int32) (l2 : Int32) (l5 : Int32) : xm Unit := mb (nn l0) fun v1 => mb (vc 9 v1) fun _ => mb (m137 F v1 l1 l2) fun _ => b130_306 F (some v1) l1 l2 l5
theorem t130_300 {sc : Nat × (Nat → Int32)} {F : Nat} {r : Unit} {h' : xv_H} {l0 : Option Nat} {l1 : Int32} {l2 : Int32} {l5 : Int32} {d3 d4 d6 d7 : Option Value} {h : xv_H} (e : b130_300 F l0 l1 l2 l5 h = some (r, h')) : xx sc 130 300 [some (va_rf l0), some (.int l1), some (.int l2), d3, d4, some (.int l5), d6, d7] [] h (fun v g => v = none ∧ g = h') := by
  unfold b130_300 at e
  refine xo_aload_nQ (w := l0) rfl rfl ?_
  refine xo_iload_n rfl rfl ?_
  refine xo_iload_n rfl rfl ?_
  refine d_nn e (fun v1 g e1 => ?_)
  subst g
  replace e := e1
  clear e1
  refine d_virtual_v (av := [.int l1, .int l2]) (rest := []) rfl ⟨by decide, by decide⟩ rfl rfl (by simp [xv_fit, va_rf_cat, cat_int, cat_long, cat_ref, cat_null, show xt_mx 137 = 6 from rfl, show xt_lg 137 = [] from rfl]) (by simp [xv_room, va_rf_cat, cat_int, cat_long, cat_ref, cat_null]) (fun x0 h1 e1 => t137 e1) e (fun _ h e => ?_)
  exact t130_306 e
def b130_286 (F : Nat) (l0 : Option Nat) (l1 : Int32) (l2 : Int32) (l5 : Int32) : xm Unit := mb (nn l0) fun v1 => mb (gr 908 v1) fun v2 => mb (nn v2) fun v3 => mb (sb v3 (((3 : Int32) * l1) + l2) (1 : Int32)) fun _ => b130_306 F (some v1) l1 l2 l5
theorem t130_286 {sc : Nat × (Nat → Int32)} {F : Nat} {r : Unit} {h' : xv_H} {l0 : Option Nat} {l1 : Int32} {l2 : Int32} {l5 : Int32} {d3 d4 d6 d7 : Option Value} {h : xv_H} (e : b130_286 F l0 l1 l2 l5 h = some (r, h')) : xx sc 130 286 [some (va_rf l0), some (.int l1), some (.int l2), d3, d4, some (.int l5), d6, d7] [] h (fun v g => v = none ∧ g = h') := by
  unfold b130_286 at e
  refine xo_aload_nQ (w := l0) rfl rfl ?_
  refine d_nn e (fun v1 g e1 => ?_)
  subst g
  replace e := e1
  clear e1
  refine d_getr rfl e (fun v2 e => ?_)
  refine xo_iconstV (x := 3) rfl (by decide) ?_
  refine xo_iload_n rfl rfl ?_
  refine xo_imul rfl ?_
  refine xo_iload_n rfl rfl ?_
  refine xo_iadd rfl ?_
  refine xo_iconstV (x := 1) rfl (by decide) ?_
  refine d_nn e (fun v3 g e1 => ?_)
  subst g
  replace e := e1
  clear e1
  refine d_bast rfl e (fun h e => ?_)
  refine xo_goto rfl rfl ?_
  exact t130_306 e
def b130_277 (F : Nat) (l0 : Option Nat) (l1 : Int32) (l2 : Int32) (l5 : Int32) : xm Unit := mb (nn l0) fun v1 => mb (vc 9 v1) fun _ => mb (m135 F v1 l1) fun v2 => if v2 ≤ (1 : Int32) then b130_300 F (some v1) l1 l2 l5 else b130_286 F (some v1) l1 l2 l5
theorem t130_277 {sc : Nat × (Nat → Int32)} {F : Nat} {r : Unit} {h' : xv_H} {l0 : Option Nat} {l1 : Int32} {l2 : Int32} {l5 : Int32} {d3 d4 d6 d7 : Option Value} {h : xv_H} (e : b130_277 F l0 l1 l2 l5 h = some (r, h')) : xx sc 130 277 [some (va_rf l0), some (.int l1), some (.int l2), d3, d4, some (.int l5), d6, d7] [] h (fun v g => v = none ∧ g = h') := by
  unfold b130_277 at e
  refine xo_aload_nQ (w := l0) rfl rfl ?_
  refine xo_iload_n rfl rfl ?_
  refine d_nn e (fun v1 g e1 => ?_)
  subst g
  replace e := e1
  clear e1
  refine d_virtual_i (av := [.int l1]) (rest := []) rfl ⟨by decide, by decide⟩ rfl rfl (by simp [xv_fit, va_rf_cat, cat_int, cat_long, cat_ref, cat_null, show xt_mx 135 = 2 from rfl, show xt_lg 135 = [] from rfl]) (by simp [xv_room, va_rf_cat, cat_int, cat_long, cat_ref, cat_null]) (fun x0 h1 e1 => t135 e1) e (fun v2 h e => ?_)
  refine xo_iconstV (x := 1) rfl (by decide) ?_
  refine d_icmp_le rfl rfl e (fun _ e => ?_) (fun _ e => ?_)
  · exact t130_300 e
  · exact t130_286 e
def b130_263 (F : Nat) (l0 : Option Nat) (l1 : Int32) (l2 : Int32) (l5 : Int32) : xm Unit := mb (nn l0) fun v1 => mb (gr 908 v1) fun v2 => mb (nn v2) fun v3 => mb (sb v3 (((3 : Int32) * l1) + l2) (3 : Int32)) fun _ => b130_306 F (some v1) l1 l2 l5
theorem t130_263 {sc : Nat × (Nat → Int32)} {F : Nat} {r : Unit} {h' : xv_H} {l0 : Option Nat} {l1 : Int32} {l2 : Int32} {l5 : Int32} {d3 d4 d6 d7 : Option Value} {h : xv_H} (e : b130_263 F l0 l1 l2 l5 h = some (r, h')) : xx sc 130 263 [some (va_rf l0), some (.int l1), some (.int l2), d3, d4, some (.int l5), d6, d7] [] h (fun v g => v = none ∧ g = h') := by
  unfold b130_263 at e
  refine xo_aload_nQ (w := l0) rfl rfl ?_
  refine d_nn e (fun v1 g e1 => ?_)
  subst g
  replace e := e1
  clear e1
  refine d_getr rfl e (fun v2 e => ?_)
  refine xo_iconstV (x := 3) rfl (by decide) ?_
  refine xo_iload_n rfl rfl ?_
  refine xo_imul rfl ?_
  refine xo_iload_n rfl rfl ?_
  refine xo_iadd rfl ?_
  refine xo_iconstV (x := 3) rfl (by decide) ?_
  refine d_nn e (fun v3 g e1 => ?_)
  subst g
  replace e := e1
  clear e1
  refine d_bast rfl e (fun h e => ?_)
  refine xo_goto rfl rfl ?_
  exact t130_306 e
def b130_258 (F : Nat) (l0 : Option Nat) (l1 : Int32) (l2 : Int32) (l5 : Int32) : xm Unit := if ¬ l5 = 0 then b130_277 F l0 l1 l2 l5 else b130_263 F l0 l1 l2 l5
theorem t130_258 {sc : Nat × (Nat → Int32)} {F : Nat} {r : Unit} {h' : xv_H} {l0 : Option Nat} {l1 : Int32} {l2 : Int32} {l5 : Int32} {d3 d4 d6 d7 : Option Value} {h : xv_H} (e : b130_258 F l0 l1 l2 l5 h = some (r, h')) : xx sc 130 258 [some (va_rf l0), some (.int l1), some (.int l2), d3, d4, some (.int l5), d6, d7] [] h (fun v g => v = none ∧ g = h') := by
  unfold b130_258 at e
  refine xo_iload rfl rfl ?_
  refine d_if_ne rfl rfl e (fun _ e => ?_) (fun _ e => ?_)
  · exact t130_277 e
  · exact t130_263 e
def b130_252 (k190 : Option Nat → Int32 → Int32 → Int32 → Int32 → Int32 → xm Unit) (F : Nat) (l0 : Option Nat) (l1 : Int32) (l2 : Int32) (l3 : Int32) (l5 : Int32) (l6 : Int32) : xm Unit := k190 l0 l1 l2 l3 l5 (l6 + (1 : Int32))
theorem t130_252 {sc : Nat × (Nat → Int32)} {F : Nat} {r : Unit} {h' : xv_H} {k190 : Option Nat → Int32 → Int32 → Int32 → Int32 → Int32 → xm Unit} (hk190 : ∀ (l0 : Option Nat) (l1 : Int32) (l2 : Int32) (l3 : Int32) (l5 : Int32) (l6 : Int32) (d4 d7 : Option Value) (h : xv_H), k190 l0 l1 l2 l3 l5 l6 h = some (r, h') → xx sc 130 190 [some (va_rf l0), some (.int l1), some (.int l2), some (.int l3), d4, some (.int l5), some (.int l6), d7] [] h (fun v g => v = none ∧ g = h')) {l0 : Option Nat} {l1 : Int32} {l2 : Int32} {l3 : Int32} {l5 : Int32} {l6 : Int32} {d4 d7 : Option Value} {h : xv_H} (e : b130_252 k190 F l0 l1 l2 l3 l5 l6 h = some (r, h')) : xx sc 130 252 [some (va_rf l0), some (.int l1), some (.int l2), some (.int l3), d4, some (.int l5), some (.int l6), d7] [] h (fun v g => v = none ∧ g = h') := by
  unfold b130_252 at e
  refine xo_iincV (z := 1) rfl (by decide) rfl (Nat.le_of_ble_eq_true rfl) rfl ?_
  refine xo_goto rfl rfl ?_
  exact hk190 _ _ _ _ _ _ _ _ _ e
def b130_250 (k190 : Option Nat → Int32 → Int32 → Int32 → Int32 → Int32 → xm Unit) (F : Nat) (s0 : Int32) (l0 : Option Nat) (l1 : Int32) (l2 : Int32) (l3 : Int32) (l6 : Int32) : xm Unit := b130_252 k190 F l0 l1 l2 l3 s0 l6
theorem t130_250 {sc : Nat × (Nat → Int32)} {F : Nat} {r : Unit} {h' : xv_H} {k190 : Option Nat → Int32 → Int32 → Int32 → Int32 → Int32 → xm Unit} (hk190 : ∀ (l0 : Option Nat) (l1 : Int32) (l2 : Int32) (l3 : Int32) (l5 : Int32) (l6 : Int32) (d4 d7 : Option Value) (h : xv_H), k190 l0 l1 l2 l3 l5 l6 h = some (r, h') → xx sc 130 190 [some (va_rf l0), some (.int l1), some (.int l2), some (.int l3), d4, some (.int l5), some (.int l6), d7] [] h (fun v g => v = none ∧ g = h')) {s0 : Int32} {l0 : Option Nat} {l1 : Int32} {l2 : Int32} {l3 : Int32} {l6 : Int32} {d4 d5 d7 : Option Value} {h : xv_H} (e : b130_250 k190 F s0 l0 l1 l2 l3 l6 h = some (r, h')) : xx sc 130 250 [some (va_rf l0), some (.int l1), some (.int l2), some (.int l3), d4, d5, some (.int l6), d7] [.int s0] h (fun v g => v = none ∧ g = h') := by
  unfold b130_250 at e
  refine xo_istore rfl (Nat.le_of_ble_eq_true rfl) rfl ?_
  exact t130_252 hk190 e
def b130_249 (k190 : Option Nat → Int32 → Int32 → Int32 → Int32 → Int32 → xm Unit) (F : Nat) (l0 : Option Nat) (l1 : Int32) (l2 : Int32) (l3 : Int32) (l6 : Int32) : xm Unit := b130_250 k190 F (0 : Int32) l0 l1 l2 l3 l6
theorem t130_249 {sc : Nat × (Nat → Int32)} {F : Nat} {r : Unit} {h' : xv_H} {k190 : Option Nat → Int32 → Int32 → Int32 → Int32 → Int32 → xm Unit} (hk190 : ∀ (l0 : Option Nat) (l1 : Int32) (l2 : Int32) (l3 : Int32) (l5 : Int32) (l6 : Int32) (d4 d7 : Option Value) (h : xv_H), k190 l0 l1 l2 l3 l5 l6 h = some (r, h') → xx sc 130 190 [some (va_rf l0), some (.int l1), some (.int l2), some (.int l3), d4, some (.int l5), some (.int l6), d7] [] h (fun v g => v = none ∧ g = h')) {l0 : Option Nat} {l1 : Int32} {l2 : Int32} {l3 : Int32} {l6 : Int32} {d4 d5 d7 : Option Value} {h : xv_H} (e : b130_249 k190 F l0 l1 l2 l3 l6 h = some (r, h')) : xx sc 130 249 [some (va_rf l0), some (.int l1), some (.int l2), some (.int l3), d4, d5, some (.int l6), d7] [] h (fun v g => v = none ∧ g = h') := by
  unfold b130_249 at e
  refine xo_iconstV (x := 0) rfl (by decide) ?_
  exact t130_250 hk190 e
def b130_245 (k190 : Option Nat → Int32 → Int32 → Int32 → Int32 → Int32 → xm Unit) (F : Nat) (l0 : Option Nat) (l1 : Int32) (l2 : Int32) (l3 : Int32) (l6 : Int32) : xm Unit := b130_250 k190 F (1 : Int32) l0 l1 l2 l3 l6
theorem t130_245 {sc : Nat × (Nat → Int32)} {F : Nat} {r : Unit} {h' : xv_H} {k190 : Option Nat → Int32 → Int32 → Int32 → Int32 → Int32 → xm Unit} (hk190 : ∀ (l0 : Option Nat) (l1 : Int32) (l2 : Int32) (l3 : Int32) (l5 : Int32) (l6 : Int32) (d4 d7 : Option Value) (h : xv_H), k190 l0 l1 l2 l3 l5 l6 h = some (r, h') → xx sc 130 190 [some (va_rf l0), some (.int l1), some (.int l2), some (.int l3), d4, some (.int l5), some (.int l6), d7] [] h (fun v g => v = none ∧ g = h')) {l0 : Option Nat} {l1 : Int32} {l2 : Int32} {l3 : Int32} {l6 : Int32} {d4 d5 d7 : Option Value} {h : xv_H} (e : b130_245 k190 F l0 l1 l2 l3 l6 h = some (r, h')) : xx sc 130 245 [some (va_rf l0), some (.int l1), some (.int l2), some (.int l3), d4, d5, some (.int l6), d7] [] h (fun v g => v = none ∧ g = h') := by
  unfold b130_245 at e
  refine xo_iconstV (x := 1) rfl (by decide) ?_
  refine xo_goto rfl rfl ?_
  exact t130_250 hk190 e
def b130_236 (k190 : Option Nat → Int32 → Int32 → Int32 → Int32 → Int32 → xm Unit) (F : Nat) (l0 : Option Nat) (l1 : Int32) (l2 : Int32) (l3 : Int32) (l6 : Int32) : xm Unit := mb (nn l0) fun v1 => mb (vc 9 v1) fun _ => mb (m133 F v1 l6) fun v2 => if v2 = 0 then b130_249 k190 F (some v1) l1 l2 l3 l6 else b130_245 k190 F (some v1) l1 l2 l3 l6
theorem t130_236 {sc : Nat × (Nat → Int32)} {F : Nat} {r : Unit} {h' : xv_H} {k190 : Option Nat → Int32 → Int32 → Int32 → Int32 → Int32 → xm Unit} (hk190 : ∀ (l0 : Option Nat) (l1 : Int32) (l2 : Int32) (l3 : Int32) (l5 : Int32) (l6 : Int32) (d4 d7 : Option Value) (h : xv_H), k190 l0 l1 l2 l3 l5 l6 h = some (r, h') → xx sc 130 190 [some (va_rf l0), some (.int l1), some (.int l2), some (.int l3), d4, some (.int l5), some (.int l6), d7] [] h (fun v g => v = none ∧ g = h')) {l0 : Option Nat} {l1 : Int32} {l2 : Int32} {l3 : Int32} {l6 : Int32} {d4 d5 d7 : Option Value} {h : xv_H} (e : b130_236 k190 F l0 l1 l2 l3 l6 h = some (r, h')) : xx sc 130 236 [some (va_rf l0), some (.int l1), some (.int l2), some (.int l3), d4, d5, some (.int l6), d7] [] h (fun v g => v = none ∧ g = h') := by
  unfold b130_236 at e
  refine xo_aload_nQ (w := l0) rfl rfl ?_
  refine xo_iload rfl rfl ?_
  refine d_nn e (fun v1 g e1 => ?_)
  subst g
  replace e := e1
  clear e1
  refine d_virtual_i (av := [.int l6]) (rest := []) rfl ⟨by decide, by decide⟩ rfl rfl (by simp [xv_fit, va_rf_cat, cat_int, cat_long, cat_ref, cat_null, show xt_mx 133 = 4 from rfl, show xt_lg 133 = [] from rfl]) (by simp [xv_room, va_rf_cat, cat_int, cat_long, cat_ref, cat_null]) (fun x0 h1 e1 => t133 e1) e (fun v2 h e => ?_)
  refine d_if_eq rfl rfl e (fun _ e => ?_) (fun _ e => ?_)
  · exact t130_249 hk190 e
  · exact t130_245 hk190 e
def b130_222 (k190 : Option Nat → Int32 → Int32 → Int32 → Int32 → Int32 → xm Unit) (F : Nat) (l0 : Option Nat) (l1 : Int32) (l2 : Int32) (l3 : Int32) (l6 : Int32) : xm Unit := mb (nn l0) fun v1 => mb (gr 911 v1) fun v2 => mb (nn v2) fun v3 => mb (lb v3 l6) fun v4 => mb (vc 9 v1) fun _ => mb (m131 F v1 v4) fun v5 => if ¬ v5 = 0 then b130_249 k190 F (some v1) l1 l2 l3 l6 else b130_236 k190 F (some v1) l1 l2 l3 l6
theorem t130_222 {sc : Nat × (Nat → Int32)} {F : Nat} {r : Unit} {h' : xv_H} {k190 : Option Nat → Int32 → Int32 → Int32 → Int32 → Int32 → xm Unit} (hk190 : ∀ (l0 : Option Nat) (l1 : Int32) (l2 : Int32) (l3 : Int32) (l5 : Int32) (l6 : Int32) (d4 d7 : Option Value) (h : xv_H), k190 l0 l1 l2 l3 l5 l6 h = some (r, h') → xx sc 130 190 [some (va_rf l0), some (.int l1), some (.int l2), some (.int l3), d4, some (.int l5), some (.int l6), d7] [] h (fun v g => v = none ∧ g = h')) {l0 : Option Nat} {l1 : Int32} {l2 : Int32} {l3 : Int32} {l6 : Int32} {d4 d5 d7 : Option Value} {h : xv_H} (e : b130_222 k190 F l0 l1 l2 l3 l6 h = some (r, h')) : xx sc 130 222 [some (va_rf l0), some (.int l1), some (.int l2), some (.int l3), d4, d5, some (.int l6), d7] [] h (fun v g => v = none ∧ g = h') := by
  unfold b130_222 at e
  refine xo_aload_nQ (w := l0) rfl rfl ?_
  refine xo_aload_nQ (w := l0) rfl rfl ?_
  refine d_nn e (fun v1 g e1 => ?_)
  subst g
  replace e := e1
  clear e1
  refine d_getr rfl e (fun v2 e => ?_)
  refine xo_iload rfl rfl ?_
  refine d_nn e (fun v3 g e1 => ?_)
  subst g
  replace e := e1
  clear e1
  refine d_bald rfl e (fun v4 e => ?_)
  refine d_virtual_i (av := [.int v4]) (rest := []) rfl ⟨by decide, by decide⟩ rfl rfl (by simp [xv_fit, va_rf_cat, cat_int, cat_long, cat_ref, cat_null, show xt_mx 131 = 6 from rfl, show xt_lg 131 = [] from rfl]) (by simp [xv_room, va_rf_cat, cat_int, cat_long, cat_ref, cat_null]) (fun x0 h1 e1 => t131 e1) e (fun v5 h e => ?_)
  refine d_if_ne rfl rfl e (fun _ e => ?_) (fun _ e => ?_)
  · exact t130_249 hk190 e
  · exact t130_236 hk190 e
def b130_217 (k190 : Option Nat → Int32 → Int32 → Int32 → Int32 → Int32 → xm Unit) (F : Nat) (l0 : Option Nat) (l1 : Int32) (l2 : Int32) (l3 : Int32) (l5 : Int32) (l6 : Int32) : xm Unit := if l5 = 0 then b130_249 k190 F l0 l1 l2 l3 l6 else b130_222 k190 F l0 l1 l2 l3 l6
theorem t130_217 {sc : Nat × (Nat → Int32)} {F : Nat} {r : Unit} {h' : xv_H} {k190 : Option Nat → Int32 → Int32 → Int32 → Int32 → Int32 → xm Unit} (hk190 : ∀ (l0 : Option Nat) (l1 : Int32) (l2 : Int32) (l3 : Int32) (l5 : Int32) (l6 : Int32) (d4 d7 : Option Value) (h : xv_H), k190 l0 l1 l2 l3 l5 l6 h = some (r, h') → xx sc 130 190 [some (va_rf l0), some (.int l1), some (.int l2), some (.int l3), d4, some (.int l5), some (.int l6), d7] [] h (fun v g => v = none ∧ g = h')) {l0 : Option Nat} {l1 : Int32} {l2 : Int32} {l3 : Int32} {l5 : Int32} {l6 : Int32} {d4 d7 : Option Value} {h : xv_H} (e : b130_217 k190 F l0 l1 l2 l3 l5 l6 h = some (r, h')) : xx sc 130 217 [some (va_rf l0), some (.int l1), some (.int l2), some (.int l3), d4, some (.int l5), some (.int l6), d7] [] h (fun v g => v = none ∧ g = h') := by
  unfold b130_217 at e
  refine xo_iload rfl rfl ?_
  refine d_if_eq rfl rfl e (fun _ e => ?_) (fun _ e => ?_)
  · exact t130_249 hk190 e
  · exact t130_222 hk190 e
def b130_203 (k190 : Option Nat → Int32 → Int32 → Int32 → Int32 → Int32 → xm Unit) (F : Nat) (l0 : Option Nat) (l1 : Int32) (l2 : Int32) (l3 : Int32) (l5 : Int32) (l6 : Int32) : xm Unit := mb (nn l0) fun v1 => mb (gr 911 v1) fun v2 => mb (nn v2) fun v3 => mb (lb v3 l6) fun v4 => mb (dz (8 : Int32)) fun _ => if ¬ (v4 / (8 : Int32)) = l2 then b130_252 k190 F (some v1) l1 l2 l3 l5 l6 else b130_217 k190 F (some v1) l1 l2 l3 l5 l6
theorem t130_203 {sc : Nat × (Nat → Int32)} {F : Nat} {r : Unit} {h' : xv_H} {k190 : Option Nat → Int32 → Int32 → Int32 → Int32 → Int32 → xm Unit} (hk190 : ∀ (l0 : Option Nat) (l1 : Int32) (l2 : Int32) (l3 : Int32) (l5 : Int32) (l6 : Int32) (d4 d7 : Option Value) (h : xv_H), k190 l0 l1 l2 l3 l5 l6 h = some (r, h') → xx sc 130 190 [some (va_rf l0), some (.int l1), some (.int l2), some (.int l3), d4, some (.int l5), some (.int l6), d7] [] h (fun v g => v = none ∧ g = h')) {l0 : Option Nat} {l1 : Int32} {l2 : Int32} {l3 : Int32} {l5 : Int32} {l6 : Int32} {d4 d7 : Option Value} {h : xv_H} (e : b130_203 k190 F l0 l1 l2 l3 l5 l6 h = some (r, h')) : xx sc 130 203 [some (va_rf l0), some (.int l1), some (.int l2), some (.int l3), d4, some (.int l5), some (.int l6), d7] [] h (fun v g => v = none ∧ g = h') := by
  unfold b130_203 at e
  refine xo_aload_nQ (w := l0) rfl rfl ?_
  refine d_nn e (fun v1 g e1 => ?_)
  subst g
  replace e := e1
  clear e1
  refine d_getr rfl e (fun v2 e => ?_)
  refine xo_iload rfl rfl ?_
  refine d_nn e (fun v3 g e1 => ?_)
  subst g
  replace e := e1
  clear e1
  refine d_bald rfl e (fun v4 e => ?_)
  refine xo_bipushV (x := 8) rfl (by decide) ?_
  refine d_idiv rfl e (fun e => ?_)
  refine xo_iload_n rfl rfl ?_
  refine d_icmp_ne rfl rfl e (fun _ e => ?_) (fun _ e => ?_)
  · exact t130_252 hk190 e
  · exact t130_217 hk190 e
def b130_190 (F : Nat) : Nat → Option Nat → Int32 → Int32 → Int32 → Int32 → Int32 → xm Unit
  | 0, _, _, _, _, _, _ => fun _ => none
  | f + 1, l0, l1, l2, l3, l5, l6 => mb (nn l0) fun v1 => mb (gr 907 v1) fun v2 => mb (nn v2) fun v3 => mb (li v3 l1) fun v4 => if (l3 + v4) ≤ l6 then b130_258 F (some v1) l1 l2 l5 else b130_203 (b130_190 F f) F (some v1) l1 l2 l3 l5 l6
theorem t130_190 {sc : Nat × (Nat → Int32)} {F : Nat} {r : Unit} {h' : xv_H} : ∀ (f : Nat) (l0 : Option Nat) (l1 : Int32) (l2 : Int32) (l3 : Int32) (l5 : Int32) (l6 : Int32) (d4 d7 : Option Value) (h : xv_H), b130_190 F f l0 l1 l2 l3 l5 l6 h = some (r, h') → xx sc 130 190 [some (va_rf l0), some (.int l1), some (.int l2), some (.int l3), d4, some (.int l5), some (.int l6), d7] [] h (fun v g => v = none ∧ g = h') := by
  intro f
  induction f with
  | zero => intro l0 l1 l2 l3 l5 l6 d4 d7 h e; cases e
  | succ f ih =>
    intro l0 l1 l2 l3 l5 l6 d4 d7 h e
    unfold b130_190 at e
    refine xo_iload rfl rfl ?_
    refine xo_iload_n rfl rfl ?_
    refine xo_aload_nQ (w := l0) rfl rfl ?_
    refine d_nn e (fun v1 g e1 => ?_)
    subst g
    replace e := e1
    clear e1
    refine d_getr rfl e (fun v2 e => ?_)
    refine xo_iload_n rfl rfl ?_
    refine d_nn e (fun v3 g e1 => ?_)
    subst g
    replace e := e1
    clear e1
    refine d_iald rfl e (fun v4 e => ?_)
    refine xo_iadd rfl ?_
    refine d_icmp_ge rfl rfl e (fun _ e => ?_) (fun _ e => ?_)
    · exact t130_258 e
    · exact t130_203 (fun a0 a1 a2 a3 a4 a5 a6 a7 h e => ih a0 a1 a2 a3 a4 a5 a6 a7 h e) e
def b130_184 (F : Nat) (l0 : Option Nat) (l1 : Int32) (l2 : Int32) (l3 : Int32) : xm Unit := b130_190 F F l0 l1 l2 l3 (1 : Int32) l3
theorem t130_184 {sc : Nat × (Nat → Int32)} {F : Nat} {r : Unit} {h' : xv_H} {l0 : Option Nat} {l1 : Int32} {l2 : Int32} {l3 : Int32} {d4 d5 d6 d7 : Option Value} {h : xv_H} (e : b130_184 F l0 l1 l2 l3 h = some (r, h')) : xx sc 130 184 [some (va_rf l0), some (.int l1), some (.int l2), some (.int l3), d4, d5, d6, d7] [] h (fun v g => v = none ∧ g = h') := by
  unfold b130_184 at e
  refine xo_iconstV (x := 1) rfl (by decide) ?_
  refine xo_istore rfl (Nat.le_of_ble_eq_true rfl) rfl ?_
  refine xo_iload_n rfl rfl ?_
  refine xo_istore rfl (Nat.le_of_ble_eq_true rfl) rfl ?_
  exact t130_190 F _ _ _ _ _ _ _ _ _ e
def b130_177 (F : Nat) (s0 : Int32) (s1 : Option Nat) (l1 : Int32) (l2 : Int32) : xm Unit := mb (nn s1) fun v1 => mb (vc 9 v1) fun _ => mb (m132 F v1 s0 l1 l2) fun v2 => mr ()
theorem t130_177 {sc : Nat × (Nat → Int32)} {F : Nat} {r : Unit} {h' : xv_H} {s0 : Int32} {s1 : Option Nat} {l1 : Int32} {l2 : Int32} {d0 d3 d4 d5 d6 d7 : Option Value} {h : xv_H} (e : b130_177 F s0 s1 l1 l2 h = some (r, h')) : xx sc 130 177 [d0, some (.int l1), some (.int l2), d3, d4, d5, d6, d7] [.int s0, va_rf s1] h (fun v g => v = none ∧ g = h') := by
  unfold b130_177 at e
  refine xo_iload_n rfl rfl ?_
  refine xo_iload_n rfl rfl ?_
  refine d_nn e (fun v1 g e1 => ?_)
  subst g
  replace e := e1
  clear e1
  refine d_virtual_i (av := [.int s0, .int l1, .int l2]) (rest := []) rfl ⟨by decide, by decide⟩ rfl rfl (by simp [xv_fit, va_rf_cat, cat_int, cat_long, cat_ref, cat_null, show xt_mx 132 = 4 from rfl, show xt_lg 132 = [] from rfl]) (by simp [xv_room, va_rf_cat, cat_int, cat_long, cat_ref, cat_null]) (fun x0 h1 e1 => t132 e1) e (fun v2 h e => ?_)
  refine xo_pop rfl (by first | rfl | exact va_rf_cat _) ?_
  exact d_ret rfl e
def b130_176 (F : Nat) (s0 : Option Nat) (l1 : Int32) (l2 : Int32) : xm Unit := b130_177 F (2 : Int32) s0 l1 l2
theorem t130_176 {sc : Nat × (Nat → Int32)} {F : Nat} {r : Unit} {h' : xv_H} {s0 : Option Nat} {l1 : Int32} {l2 : Int32} {d0 d3 d4 d5 d6 d7 : Option Value} {h : xv_H} (e : b130_176 F s0 l1 l2 h = some (r, h')) : xx sc 130 176 [d0, some (.int l1), some (.int l2), d3, d4, d5, d6, d7] [va_rf s0] h (fun v g => v = none ∧ g = h') := by
  unfold b130_176 at e
  refine xo_iconstV (x := 2) rfl (by decide) ?_
  exact t130_177 e
def b130_172 (F : Nat) (s0 : Option Nat) (l1 : Int32) (l2 : Int32) : xm Unit := b130_177 F (3 : Int32) s0 l1 l2
theorem t130_172 {sc : Nat × (Nat → Int32)} {F : Nat} {r : Unit} {h' : xv_H} {s0 : Option Nat} {l1 : Int32} {l2 : Int32} {d0 d3 d4 d5 d6 d7 : Option Value} {h : xv_H} (e : b130_172 F s0 l1 l2 h = some (r, h')) : xx sc 130 172 [d0, some (.int l1), some (.int l2), d3, d4, d5, d6, d7] [va_rf s0] h (fun v g => v = none ∧ g = h') := by
  unfold b130_172 at e
  refine xo_iconstV (x := 3) rfl (by decide) ?_
  refine xo_goto rfl rfl ?_
  exact t130_177 e
def b130_165 (F : Nat) (l0 : Option Nat) (l1 : Int32) (l2 : Int32) (l4 : Int32) : xm Unit := if ¬ l4 = (3 : Int32) then b130_176 F l0 l1 l2 else b130_172 F l0 l1 l2
theorem t130_165 {sc : Nat × (Nat → Int32)} {F : Nat} {r : Unit} {h' : xv_H} {l0 : Option Nat} {l1 : Int32} {l2 : Int32} {l4 : Int32} {d3 d5 d6 d7 : Option Value} {h : xv_H} (e : b130_165 F l0 l1 l2 l4 h = some (r, h')) : xx sc 130 165 [some (va_rf l0), some (.int l1), some (.int l2), d3, some (.int l4), d5, d6, d7] [] h (fun v g => v = none ∧ g = h') := by
  unfold b130_165 at e
  refine xo_aload_nQ (w := l0) rfl rfl ?_
  refine xo_iload rfl rfl ?_
  refine xo_iconstV (x := 3) rfl (by decide) ?_
  refine d_icmp_ne rfl rfl e (fun _ e => ?_) (fun _ e => ?_)
  · exact t130_176 e
  · exact t130_172 e
def b130_148 (F : Nat) (l0 : Option Nat) (l1 : Int32) (l2 : Int32) (l3 : Int32) : xm Unit := mb (nn l0) fun v1 => mb (gr 908 v1) fun v2 => mb (nn v2) fun v3 => mb (lb v3 (((3 : Int32) * l1) + l2)) fun v4 => if v4 ≤ 0 then b130_184 F (some v1) l1 l2 l3 else b130_165 F (some v1) l1 l2 v4
theorem t130_148 {sc : Nat × (Nat → Int32)} {F : Nat} {r : Unit} {h' : xv_H} {l0 : Option Nat} {l1 : Int32} {l2 : Int32} {l3 : Int32} {d4 d5 d6 d7 : Option Value} {h : xv_H} (e : b130_148 F l0 l1 l2 l3 h = some (r, h')) : xx sc 130 148 [some (va_rf l0), some (.int l1), some (.int l2), some (.int l3), d4, d5, d6, d7] [] h (fun v g => v = none ∧ g = h') := by
  unfold b130_148 at e
  refine xo_aload_nQ (w := l0) rfl rfl ?_
  refine d_nn e (fun v1 g e1 => ?_)
  subst g
  replace e := e1
  clear e1
  refine d_getr rfl e (fun v2 e => ?_)
  refine xo_iconstV (x := 3) rfl (by decide) ?_
  refine xo_iload_n rfl rfl ?_
  refine xo_imul rfl ?_
  refine xo_iload_n rfl rfl ?_
  refine xo_iadd rfl ?_
  refine d_nn e (fun v3 g e1 => ?_)
  subst g
  replace e := e1
  clear e1
  refine d_bald rfl e (fun v4 e => ?_)
  refine xo_istore rfl (Nat.le_of_ble_eq_true rfl) rfl ?_
  refine xo_iload rfl rfl ?_
  refine d_if_le rfl rfl e (fun _ e => ?_) (fun _ e => ?_)
  · exact t130_184 e
  · exact t130_165 e
def b130_147 (F : Nat) : xm Unit := mr ()
theorem t130_147 {sc : Nat × (Nat → Int32)} {F : Nat} {r : Unit} {h' : xv_H} {d0 d1 d2 d3 d4 d5 d6 d7 : Option Value} {h : xv_H} (e : b130_147 F h = some (r, h')) : xx sc 130 147 [d0, d1, d2, d3, d4, d5, d6, d7] [] h (fun v g => v = none ∧ g = h') := by
  unfold b130_147 at e
  exact d_ret rfl e
def b130_117 (k111 : Option Nat → Int32 → Int32 → Int32 → xm Unit) (F : Nat) (l0 : Option Nat) (l4 : Int32) (l6 : Int32) (l7 : Int32) : xm Unit := mb (nn l0) fun v1 => mb (gr 921 v1) fun v2 => mb (gr 903 v1) fun v3 => mb (nn v3) fun v4 => mb (li v4 (((3 : Int32) * l4) + l7)) fun v5 => mb (nn v2) fun v6 => mb (si v6 (((3 : Int32) * l6) + l7) v5) fun _ => k111 (some v1) l4 l6 (l7 + (1 : Int32))
theorem t130_117 {sc : Nat × (Nat → Int32)} {F : Nat} {r : Unit} {h' : xv_H} {k111 : Option Nat → Int32 → Int32 → Int32 → xm Unit} (hk111 : ∀ (l0 : Option Nat) (l4 : Int32) (l6 : Int32) (l7 : Int32) (d1 d2 d3 d5 : Option Value) (h : xv_H), k111 l0 l4 l6 l7 h = some (r, h') → xx sc 130 111 [some (va_rf l0), d1, d2, d3, some (.int l4), d5, some (.int l6), some (.int l7)] [] h (fun v g => v = none ∧ g = h')) {l0 : Option Nat} {l4 : Int32} {l6 : Int32} {l7 : Int32} {d1 d2 d3 d5 : Option Value} {h : xv_H} (e : b130_117 k111 F l0 l4 l6 l7 h = some (r, h')) : xx sc 130 117 [some (va_rf l0), d1, d2, d3, some (.int l4), d5, some (.int l6), some (.int l7)] [] h (fun v g => v = none ∧ g = h') := by
  unfold b130_117 at e
  refine xo_aload_nQ (w := l0) rfl rfl ?_
  refine d_nn e (fun v1 g e1 => ?_)
  subst g
  replace e := e1
  clear e1
  refine d_getr rfl e (fun v2 e => ?_)
  refine xo_iconstV (x := 3) rfl (by decide) ?_
  refine xo_iload rfl rfl ?_
  refine xo_imul rfl ?_
  refine xo_iload rfl rfl ?_
  refine xo_iadd rfl ?_
  refine xo_aload_nQ (w := (some v1)) rfl rfl ?_
  refine d_getr rfl e (fun v3 e => ?_)
  refine xo_iconstV (x := 3) rfl (by decide) ?_
  refine xo_iload rfl rfl ?_
  refine xo_imul rfl ?_
  refine xo_iload rfl rfl ?_
  refine xo_iadd rfl ?_
  refine d_nn e (fun v4 g e1 => ?_)
  subst g
  replace e := e1
  clear e1
  refine d_iald rfl e (fun v5 e => ?_)
  refine d_nn e (fun v6 g e1 => ?_)
  subst g
  replace e := e1
  clear e1
  refine d_iast rfl e (fun h e => ?_)
  refine xo_iincV (z := 1) rfl (by decide) rfl (Nat.le_of_ble_eq_true rfl) rfl ?_
  refine xo_goto rfl rfl ?_
  exact hk111 _ _ _ _ _ _ _ _ _ e
def b130_111 (F : Nat) : Nat → Option Nat → Int32 → Int32 → Int32 → xm Unit
  | 0, _, _, _, _ => fun _ => none
  | f + 1, l0, l4, l6, l7 => if (3 : Int32) ≤ l7 then b130_147 F else b130_117 (b130_111 F f) F l0 l4 l6 l7
theorem t130_111 {sc : Nat × (Nat → Int32)} {F : Nat} {r : Unit} {h' : xv_H} : ∀ (f : Nat) (l0 : Option Nat) (l4 : Int32) (l6 : Int32) (l7 : Int32) (d1 d2 d3 d5 : Option Value) (h : xv_H), b130_111 F f l0 l4 l6 l7 h = some (r, h') → xx sc 130 111 [some (va_rf l0), d1, d2, d3, some (.int l4), d5, some (.int l6), some (.int l7)] [] h (fun v g => v = none ∧ g = h') := by
  intro f
  induction f with
  | zero => intro l0 l4 l6 l7 d1 d2 d3 d5 h e; cases e
  | succ f ih =>
    intro l0 l4 l6 l7 d1 d2 d3 d5 h e
    unfold b130_111 at e
    refine xo_iload rfl rfl ?_
    refine xo_iconstV (x := 3) rfl (by decide) ?_
    refine d_icmp_ge rfl rfl e (fun _ e => ?_) (fun _ e => ?_)
    · exact t130_147 e
    · exact t130_117 (fun a0 a1 a2 a3 a4 a5 a6 a7 h e => ih a0 a1 a2 a3 a4 a5 a6 a7 h e) e
def b130_80 (F : Nat) (l0 : Option Nat) (l4 : Int32) (l6 : Int32) : xm Unit := mb (nn l0) fun v1 => mb (gr 919 v1) fun v2 => mb (gr 902 v1) fun v3 => mb (nn v3) fun v4 => mb (li v4 l4) fun v5 => mb (nn v2) fun v6 => mb (si v6 l6 v5) fun _ => mb (gr 920 v1) fun v7 => mb (gr 901 v1) fun v8 => mb (nn v8) fun v9 => mb (ll v9 l4) fun v10 => mb (nn v7) fun v11 => mb (sl v11 l6 v10) fun _ => b130_111 F F (some v1) l4 l6 (0 : Int32)
theorem t130_80 {sc : Nat × (Nat → Int32)} {F : Nat} {r : Unit} {h' : xv_H} {l0 : Option Nat} {l4 : Int32} {l6 : Int32} {d1 d2 d3 d5 d7 : Option Value} {h : xv_H} (e : b130_80 F l0 l4 l6 h = some (r, h')) : xx sc 130 80 [some (va_rf l0), d1, d2, d3, some (.int l4), d5, some (.int l6), d7] [] h (fun v g => v = none ∧ g = h') := by
  unfold b130_80 at e
  refine xo_aload_nQ (w := l0) rfl rfl ?_
  refine d_nn e (fun v1 g e1 => ?_)
  subst g
  replace e := e1
  clear e1
  refine d_getr rfl e (fun v2 e => ?_)
  refine xo_iload rfl rfl ?_
  refine xo_aload_nQ (w := (some v1)) rfl rfl ?_
  refine d_getr rfl e (fun v3 e => ?_)
  refine xo_iload rfl rfl ?_
  refine d_nn e (fun v4 g e1 => ?_)
  subst g
  replace e := e1
  clear e1
  refine d_iald rfl e (fun v5 e => ?_)
  refine d_nn e (fun v6 g e1 => ?_)
  subst g
  replace e := e1
  clear e1
  refine d_iast rfl e (fun h e => ?_)
  refine xo_aload_nQ (w := (some v1)) rfl rfl ?_
  refine d_getr rfl e (fun v7 e => ?_)
  refine xo_iload rfl rfl ?_
  refine xo_aload_nQ (w := (some v1)) rfl rfl ?_
  refine d_getr rfl e (fun v8 e => ?_)
  refine xo_iload rfl rfl ?_
  refine d_nn e (fun v9 g e1 => ?_)
  subst g
  replace e := e1
  clear e1
  refine d_lald rfl e (fun v10 e => ?_)
  refine d_nn e (fun v11 g e1 => ?_)
  subst g
  replace e := e1
  clear e1
  refine d_last rfl e (fun h e => ?_)
  refine xo_iconstV (x := 0) rfl (by decide) ?_
  refine xo_istore rfl (Nat.le_of_ble_eq_true rfl) rfl ?_
  exact t130_111 F _ _ _ _ _ _ _ _ _ e
def b130_79 (F : Nat) : xm Unit := mr ()
theorem t130_79 {sc : Nat × (Nat → Int32)} {F : Nat} {r : Unit} {h' : xv_H} {d0 d1 d2 d3 d4 d5 d6 d7 : Option Value} {h : xv_H} (e : b130_79 F h = some (r, h')) : xx sc 130 79 [d0, d1, d2, d3, d4, d5, d6, d7] [] h (fun v g => v = none ∧ g = h') := by
  unfold b130_79 at e
  exact d_ret rfl e
def b130_74 (F : Nat) (l0 : Option Nat) (l4 : Int32) (l5 : Int32) (l6 : Int32) : xm Unit := if l5 = 0 then b130_80 F l0 l4 l6 else b130_79 F
theorem t130_74 {sc : Nat × (Nat → Int32)} {F : Nat} {r : Unit} {h' : xv_H} {l0 : Option Nat} {l4 : Int32} {l5 : Int32} {l6 : Int32} {d1 d2 d3 d7 : Option Value} {h : xv_H} (e : b130_74 F l0 l4 l5 l6 h = some (r, h')) : xx sc 130 74 [some (va_rf l0), d1, d2, d3, some (.int l4), some (.int l5), some (.int l6), d7] [] h (fun v g => v = none ∧ g = h') := by
  unfold b130_74 at e
  refine xo_iload rfl rfl ?_
  refine d_if_eq rfl rfl e (fun _ e => ?_) (fun _ e => ?_)
  · exact t130_80 e
  · exact t130_79 e
def b130_62 (F : Nat) (s0 : Int32) (s1 : Option Nat) (l0 : Option Nat) (l1 : Int32) (l2 : Int32) (l4 : Int32) (l5 : Int32) : xm Unit := mb (nn s1) fun v1 => mb (vc 9 v1) fun _ => mb (m132 F v1 s0 l1 l2) fun v2 => if v2 < 0 then b130_79 F else b130_74 F l0 l4 l5 v2
theorem t130_62 {sc : Nat × (Nat → Int32)} {F : Nat} {r : Unit} {h' : xv_H} {s0 : Int32} {s1 : Option Nat} {l0 : Option Nat} {l1 : Int32} {l2 : Int32} {l4 : Int32} {l5 : Int32} {d3 d6 d7 : Option Value} {h : xv_H} (e : b130_62 F s0 s1 l0 l1 l2 l4 l5 h = some (r, h')) : xx sc 130 62 [some (va_rf l0), some (.int l1), some (.int l2), d3, some (.int l4), some (.int l5), d6, d7] [.int s0, va_rf s1] h (fun v g => v = none ∧ g = h') := by
  unfold b130_62 at e
  refine xo_iload_n rfl rfl ?_
  refine xo_iload_n rfl rfl ?_
  refine d_nn e (fun v1 g e1 => ?_)
  subst g
  replace e := e1
  clear e1
  refine d_virtual_i (av := [.int s0, .int l1, .int l2]) (rest := []) rfl ⟨by decide, by decide⟩ rfl rfl (by simp [xv_fit, va_rf_cat, cat_int, cat_long, cat_ref, cat_null, show xt_mx 132 = 4 from rfl, show xt_lg 132 = [] from rfl]) (by simp [xv_room, va_rf_cat, cat_int, cat_long, cat_ref, cat_null]) (fun x0 h1 e1 => t132 e1) e (fun v2 h e => ?_)
  refine xo_istore rfl (Nat.le_of_ble_eq_true rfl) rfl ?_
  refine xo_iload rfl rfl ?_
  refine d_if_lt rfl rfl e (fun _ e => ?_) (fun _ e => ?_)
  · exact t130_79 e
  · exact t130_74 e
def b130_61 (F : Nat) (s0 : Option Nat) (l0 : Option Nat) (l1 : Int32) (l2 : Int32) (l4 : Int32) (l5 : Int32) : xm Unit := b130_62 F (2 : Int32) s0 l0 l1 l2 l4 l5
theorem t130_61 {sc : Nat × (Nat → Int32)} {F : Nat} {r : Unit} {h' : xv_H} {s0 : Option Nat} {l0 : Option Nat} {l1 : Int32} {l2 : Int32} {l4 : Int32} {l5 : Int32} {d3 d6 d7 : Option Value} {h : xv_H} (e : b130_61 F s0 l0 l1 l2 l4 l5 h = some (r, h')) : xx sc 130 61 [some (va_rf l0), some (.int l1), some (.int l2), d3, some (.int l4), some (.int l5), d6, d7] [va_rf s0] h (fun v g => v = none ∧ g = h') := by
  unfold b130_61 at e
  refine xo_iconstV (x := 2) rfl (by decide) ?_
  exact t130_62 e
def b130_57 (F : Nat) (s0 : Option Nat) (l0 : Option Nat) (l1 : Int32) (l2 : Int32) (l4 : Int32) (l5 : Int32) : xm Unit := b130_62 F (3 : Int32) s0 l0 l1 l2 l4 l5
theorem t130_57 {sc : Nat × (Nat → Int32)} {F : Nat} {r : Unit} {h' : xv_H} {s0 : Option Nat} {l0 : Option Nat} {l1 : Int32} {l2 : Int32} {l4 : Int32} {l5 : Int32} {d3 d6 d7 : Option Value} {h : xv_H} (e : b130_57 F s0 l0 l1 l2 l4 l5 h = some (r, h')) : xx sc 130 57 [some (va_rf l0), some (.int l1), some (.int l2), d3, some (.int l4), some (.int l5), d6, d7] [va_rf s0] h (fun v g => v = none ∧ g = h') := by
  unfold b130_57 at e
  refine xo_iconstV (x := 3) rfl (by decide) ?_
  refine xo_goto rfl rfl ?_
  exact t130_62 e
def b130_49 (F : Nat) (s0 : Int32) (l0 : Option Nat) (l1 : Int32) (l2 : Int32) (l4 : Int32) : xm Unit := if s0 = 0 then b130_61 F l0 l0 l1 l2 l4 s0 else b130_57 F l0 l0 l1 l2 l4 s0
theorem t130_49 {sc : Nat × (Nat → Int32)} {F : Nat} {r : Unit} {h' : xv_H} {s0 : Int32} {l0 : Option Nat} {l1 : Int32} {l2 : Int32} {l4 : Int32} {d3 d5 d6 d7 : Option Value} {h : xv_H} (e : b130_49 F s0 l0 l1 l2 l4 h = some (r, h')) : xx sc 130 49 [some (va_rf l0), some (.int l1), some (.int l2), d3, some (.int l4), d5, d6, d7] [.int s0] h (fun v g => v = none ∧ g = h') := by
  unfold b130_49 at e
  refine xo_istore rfl (Nat.le_of_ble_eq_true rfl) rfl ?_
  refine xo_aload_nQ (w := l0) rfl rfl ?_
  refine xo_iload rfl rfl ?_
  refine d_if_eq rfl rfl e (fun _ e => ?_) (fun _ e => ?_)
  · exact t130_61 e
  · exact t130_57 e
def b130_48 (F : Nat) (l0 : Option Nat) (l1 : Int32) (l2 : Int32) (l4 : Int32) : xm Unit := b130_49 F (0 : Int32) l0 l1 l2 l4
theorem t130_48 {sc : Nat × (Nat → Int32)} {F : Nat} {r : Unit} {h' : xv_H} {l0 : Option Nat} {l1 : Int32} {l2 : Int32} {l4 : Int32} {d3 d5 d6 d7 : Option Value} {h : xv_H} (e : b130_48 F l0 l1 l2 l4 h = some (r, h')) : xx sc 130 48 [some (va_rf l0), some (.int l1), some (.int l2), d3, some (.int l4), d5, d6, d7] [] h (fun v g => v = none ∧ g = h') := by
  unfold b130_48 at e
  refine xo_iconstV (x := 0) rfl (by decide) ?_
  exact t130_49 e
def b130_44 (F : Nat) (l0 : Option Nat) (l1 : Int32) (l2 : Int32) (l4 : Int32) : xm Unit := b130_49 F (1 : Int32) l0 l1 l2 l4
theorem t130_44 {sc : Nat × (Nat → Int32)} {F : Nat} {r : Unit} {h' : xv_H} {l0 : Option Nat} {l1 : Int32} {l2 : Int32} {l4 : Int32} {d3 d5 d6 d7 : Option Value} {h : xv_H} (e : b130_44 F l0 l1 l2 l4 h = some (r, h')) : xx sc 130 44 [some (va_rf l0), some (.int l1), some (.int l2), d3, some (.int l4), d5, d6, d7] [] h (fun v g => v = none ∧ g = h') := by
  unfold b130_44 at e
  refine xo_iconstV (x := 1) rfl (by decide) ?_
  refine xo_goto rfl rfl ?_
  exact t130_49 e
def b130_27 (F : Nat) (l0 : Option Nat) (l1 : Int32) (l2 : Int32) (l3 : Int32) : xm Unit := mb (nn l0) fun v1 => mb (gr 911 v1) fun v2 => mb (nn v2) fun v3 => mb (lb v3 l3) fun v4 => mb (vc 9 v1) fun _ => mb (m131 F v1 v4) fun v5 => if v5 ≤ 0 then b130_48 F (some v1) l1 l2 v4 else b130_44 F (some v1) l1 l2 v4
theorem t130_27 {sc : Nat × (Nat → Int32)} {F : Nat} {r : Unit} {h' : xv_H} {l0 : Option Nat} {l1 : Int32} {l2 : Int32} {l3 : Int32} {d4 d5 d6 d7 : Option Value} {h : xv_H} (e : b130_27 F l0 l1 l2 l3 h = some (r, h')) : xx sc 130 27 [some (va_rf l0), some (.int l1), some (.int l2), some (.int l3), d4, d5, d6, d7] [] h (fun v g => v = none ∧ g = h') := by
  unfold b130_27 at e
  refine xo_aload_nQ (w := l0) rfl rfl ?_
  refine d_nn e (fun v1 g e1 => ?_)
  subst g
  replace e := e1
  clear e1
  refine d_getr rfl e (fun v2 e => ?_)
  refine xo_iload_n rfl rfl ?_
  refine d_nn e (fun v3 g e1 => ?_)
  subst g
  replace e := e1
  clear e1
  refine d_bald rfl e (fun v4 e => ?_)
  refine xo_istore rfl (Nat.le_of_ble_eq_true rfl) rfl ?_
  refine xo_aload_nQ (w := (some v1)) rfl rfl ?_
  refine xo_iload rfl rfl ?_
  refine d_virtual_i (av := [.int v4]) (rest := []) rfl ⟨by decide, by decide⟩ rfl rfl (by simp [xv_fit, va_rf_cat, cat_int, cat_long, cat_ref, cat_null, show xt_mx 131 = 6 from rfl, show xt_lg 131 = [] from rfl]) (by simp [xv_room, va_rf_cat, cat_int, cat_long, cat_ref, cat_null]) (fun x0 h1 e1 => t131 e1) e (fun v5 h e => ?_)
  refine d_if_le rfl rfl e (fun _ e => ?_) (fun _ e => ?_)
  · exact t130_48 e
  · exact t130_44 e
def b130_17 (F : Nat) (l0 : Option Nat) (l1 : Int32) (l2 : Int32) (l3 : Int32) : xm Unit := mb (nn l0) fun v1 => mb (gr 910 v1) fun v2 => mb (nn v2) fun v3 => mb (lb v3 l3) fun v4 => if ¬ v4 = (1 : Int32) then b130_148 F (some v1) l1 l2 l3 else b130_27 F (some v1) l1 l2 l3
theorem t130_17 {sc : Nat × (Nat → Int32)} {F : Nat} {r : Unit} {h' : xv_H} {l0 : Option Nat} {l1 : Int32} {l2 : Int32} {l3 : Int32} {d4 d5 d6 d7 : Option Value} {h : xv_H} (e : b130_17 F l0 l1 l2 l3 h = some (r, h')) : xx sc 130 17 [some (va_rf l0), some (.int l1), some (.int l2), some (.int l3), d4, d5, d6, d7] [] h (fun v g => v = none ∧ g = h') := by
  unfold b130_17 at e
  refine xo_aload_nQ (w := l0) rfl rfl ?_
  refine d_nn e (fun v1 g e1 => ?_)
  subst g
  replace e := e1
  clear e1
  refine d_getr rfl e (fun v2 e => ?_)
  refine xo_iload_n rfl rfl ?_
  refine d_nn e (fun v3 g e1 => ?_)
  subst g
  replace e := e1
  clear e1
  refine d_bald rfl e (fun v4 e => ?_)
  refine xo_iconstV (x := 1) rfl (by decide) ?_
  refine d_icmp_ne rfl rfl e (fun _ e => ?_) (fun _ e => ?_)
  · exact t130_148 e
  · exact t130_27 e
def b130_0 (F : Nat) (l0 : Option Nat) (l1 : Int32) (l2 : Int32) : xm Unit := mb (nn l0) fun v1 => mb (gr 906 v1) fun v2 => mb (nn v2) fun v3 => mb (li v3 l1) fun v4 => mb (gr 907 v1) fun v5 => mb (nn v5) fun v6 => mb (li v6 l1) fun v7 => if ¬ v7 = (1 : Int32) then b130_148 F (some v1) l1 l2 v4 else b130_17 F (some v1) l1 l2 v4
theorem t130_0 {sc : Nat × (Nat → Int32)} {F : Nat} {r : Unit} {h' : xv_H} {l0 : Option Nat} {l1 : Int32} {l2 : Int32} {d3 d4 d5 d6 d7 : Option Value} {h : xv_H} (e : b130_0 F l0 l1 l2 h = some (r, h')) : xx sc 130 0 [some (va_rf l0), some (.int l1), some (.int l2), d3, d4, d5, d6, d7] [] h (fun v g => v = none ∧ g = h') := by
  unfold b130_0 at e
  refine xo_aload_nQ (w := l0) rfl rfl ?_
  refine d_nn e (fun v1 g e1 => ?_)
  subst g
  replace e := e1
  clear e1
  refine d_getr rfl e (fun v2 e => ?_)
  refine xo_iload_n rfl rfl ?_
  refine d_nn e (fun v3 g e1 => ?_)
  subst g
  replace e := e1
  clear e1
  refine d_iald rfl e (fun v4 e => ?_)
  refine xo_istore_n rfl (Nat.le_of_ble_eq_true rfl) rfl ?_
  refine xo_aload_nQ (w := (some v1)) rfl rfl ?_
  refine d_getr rfl e (fun v5 e => ?_)
  refine xo_iload_n rfl rfl ?_
  refine d_nn e (fun v6 g e1 => ?_)
  subst g
  replace e := e1
  clear e1
  refine d_iald rfl e (fun v7 e => ?_)
  refine xo_iconstV (x := 1) rfl (by decide) ?_
  refine d_icmp_ne rfl rfl e (fun _ e => ?_) (fun _ e => ?_)
  · exact t130_148 e
  · exact t130_17 e
def m130 (F : Nat) (this : Nat) (p0 : Int32) (p1 : Int32) : xm Unit := b130_0 F (some this) p0 p1
theorem t130 {sc : Nat × (Nat → Int32)} {F : Nat} {this : Nat} {p0 : Int32} {p1 : Int32} {h : xv_H} {r : Unit} {h' : xv_H} (e : m130 F this p0 p1 h = some (r, h')) : xr sc 130 [.ref this, .int p0, .int p1] h (fun v g => v = none ∧ g = h') := by
  have e0 : xv_ent (xt_mx 130) [.ref this, .int p0, .int p1] = [some (va_rf (some this)), some (.int p0), some (.int p1), none, none, none, none, none] := by simp [xv_ent, xv_sl, va_rf_cat, cat_int, cat_long, cat_ref, cat_null, va_rf_some, show xt_mx 130 = 8 from rfl]
  unfold xr
  rw [e0]
  exact t130_0 e
