-- CellTreeModel.remembers(II)I
def b187_35 (F : Nat) (s0 : Int32) : xm Int32 := mr s0
theorem t187_35 {sc : Nat × (Nat → Int32)} {F : Nat} {r : Int32} {h' : xv_H} {s0 : Int32} {d0 d1 d2 : Option Value} {h : xv_H} (e : b187_35 F s0 h = some (r, h')) : xx sc 187 35 [d0, d1, d2] [.int s0] h (fun v g => v = some (.int r) ∧ g = h') := by
  unfold b187_35 at e
  exact d_iret rfl e
def b187_34 (F : Nat) : xm Int32 := b187_35 F (-1 : Int32)
theorem t187_34 {sc : Nat × (Nat → Int32)} {F : Nat} {r : Int32} {h' : xv_H} {d0 d1 d2 : Option Value} {h : xv_H} (e : b187_34 F h = some (r, h')) : xx sc 187 34 [d0, d1, d2] [] h (fun v g => v = some (.int r) ∧ g = h') := by
  unfold b187_34 at e
  refine xo_iconstV (x := (-1)) rfl (by decide) ?_
  exact t187_35 e
def b187_21 (F : Nat) (l0 : Option Nat) (l1 : Int32) (l2 : Int32) : xm Int32 := mb (nn l0) fun v1 => mb (gr 908 v1) fun v2 => mb (nn v2) fun v3 => mb (lb v3 (((3 : Int32) * l2) + l1)) fun v4 => b187_35 F v4
theorem t187_21 {sc : Nat × (Nat → Int32)} {F : Nat} {r : Int32} {h' : xv_H} {l0 : Option Nat} {l1 : Int32} {l2 : Int32} {h : xv_H} (e : b187_21 F l0 l1 l2 h = some (r, h')) : xx sc 187 21 [some (va_rf l0), some (.int l1), some (.int l2)] [] h (fun v g => v = some (.int r) ∧ g = h') := by
  unfold b187_21 at e
  refine xo_aload_nQ (w := l0) rfl rfl ?_
  refine d_nn e (fun v1 g e1 => ?_)
  subst g
  replace e := e1
  clear e1
  refine d_getr rfl e (fun v2 e => ?_)
  refine xo_iconstV (x := 3) rfl (by decide) ?_
  refine xo_iload_n rfl rfl ?_
  refine xo_imul rfl ?_
  refine xo_iload_n rfl rfl ?_
  refine xo_iadd rfl ?_
  refine d_nn e (fun v3 g e1 => ?_)
  subst g
  replace e := e1
  clear e1
  refine d_bald rfl e (fun v4 e => ?_)
  refine xo_goto rfl rfl ?_
  exact t187_35 e
def b187_9 (F : Nat) (l0 : Option Nat) (l1 : Int32) (l2 : Int32) : xm Int32 := mb (nn l0) fun v1 => mb (gi 904 v1) fun v2 => mb (m127 F l2 (1 : Int32) v2) fun v3 => if v3 = 0 then b187_34 F else b187_21 F (some v1) l1 l2
theorem t187_9 {sc : Nat × (Nat → Int32)} {F : Nat} {r : Int32} {h' : xv_H} {l0 : Option Nat} {l1 : Int32} {l2 : Int32} {h : xv_H} (e : b187_9 F l0 l1 l2 h = some (r, h')) : xx sc 187 9 [some (va_rf l0), some (.int l1), some (.int l2)] [] h (fun v g => v = some (.int r) ∧ g = h') := by
  unfold b187_9 at e
  refine xo_iload_n rfl rfl ?_
  refine xo_iconstV (x := 1) rfl (by decide) ?_
  refine xo_aload_nQ (w := l0) rfl rfl ?_
  refine d_nn e (fun v1 g e1 => ?_)
  subst g
  replace e := e1
  clear e1
  refine d_geti rfl e (fun v2 e => ?_)
  refine d_static_i (av := [.int l2, .int (1 : Int32), .int v2]) (rest := []) rfl ⟨by decide, by decide, by decide⟩ rfl rfl (by simp [xv_fit, va_rf_cat, cat_int, cat_long, cat_ref, cat_null, show xt_mx 127 = 3 from rfl, show xt_lg 127 = [] from rfl]) (by simp [xv_room, va_rf_cat, cat_int, cat_long, cat_ref, cat_null]) (fun x0 h1 e1 => t127 e1) e (fun v3 h e => ?_)
  refine d_if_eq rfl rfl e (fun _ e => ?_) (fun _ e => ?_)
  · exact t187_34 e
  · exact t187_21 e
def b187_0 (F : Nat) (l0 : Option Nat) (l1 : Int32) (l2 : Int32) : xm Int32 := mb (m127 F l1 (0 : Int32) (2 : Int32)) fun v1 => if v1 = 0 then b187_34 F else b187_9 F l0 l1 l2
theorem t187_0 {sc : Nat × (Nat → Int32)} {F : Nat} {r : Int32} {h' : xv_H} {l0 : Option Nat} {l1 : Int32} {l2 : Int32} {h : xv_H} (e : b187_0 F l0 l1 l2 h = some (r, h')) : xx sc 187 0 [some (va_rf l0), some (.int l1), some (.int l2)] [] h (fun v g => v = some (.int r) ∧ g = h') := by
  unfold b187_0 at e
  refine xo_iload_n rfl rfl ?_
  refine xo_iconstV (x := 0) rfl (by decide) ?_
  refine xo_iconstV (x := 2) rfl (by decide) ?_
  refine d_static_i (av := [.int l1, .int (0 : Int32), .int (2 : Int32)]) (rest := []) rfl ⟨by decide, by decide, by decide⟩ rfl rfl (by simp [xv_fit, va_rf_cat, cat_int, cat_long, cat_ref, cat_null, show xt_mx 127 = 3 from rfl, show xt_lg 127 = [] from rfl]) (by simp [xv_room, va_rf_cat, cat_int, cat_long, cat_ref, cat_null]) (fun x0 h1 e1 => t127 e1) e (fun v1 h e => ?_)
  refine d_if_eq rfl rfl e (fun _ e => ?_) (fun _ e => ?_)
  · exact t187_34 e
  · exact t187_9 e
def m187 (F : Nat) (this : Nat) (p0 : Int32) (p1 : Int32) : xm Int32 := b187_0 F (some this) p0 p1
theorem t187 {sc : Nat × (Nat → Int32)} {F : Nat} {this : Nat} {p0 : Int32} {p1 : Int32} {h : xv_H} {r : Int32} {h' : xv_H} (e : m187 F this p0 p1 h = some (r, h')) : xr sc 187 [.ref this, .int p0, .int p1] h (fun v g => v = some (.int r) ∧ g = h') := by
  have e0 : xv_ent (xt_mx 187) [.ref this, .int p0, .int p1] = [some (va_rf (some this)), some (.int p0), some (.int p1)] := by simp [xv_ent, xv_sl, va_rf_cat, cat_int, cat_long, cat_ref, cat_null, va_rf_some, show xt_mx 187 = 3 from rfl]
  unfold xr
  rw [e0]
  exact t187_0 e
-- CellTreeLaw.law([I)Z
def b188_677 (sc : Nat × (Nat → Int32)) (F : Nat) : xm Int32 := mb (bz (1 : Int32)) fun _ => mr (1 : Int32)
theorem t188_677 {sc : Nat × (Nat → Int32)} {F : Nat} {r : Int32} {h' : xv_H} {d1 d2 d3 : Option Value} {h : xv_H} (e : b188_677 sc F h = some (r, h')) : xx sc 188 677 [some (va_rf (some xv_SB)), d1, d2, d3] [] h (fun v g => v = some (.int r) ∧ g = h') := by
  unfold b188_677 at e
  refine xo_iconstV (x := 1) rfl (by decide) ?_
  exact d_zret rfl e
def b188_671 (sc : Nat × (Nat → Int32)) (k18 : Option Nat → Option Nat → Int32 → xm Int32) (F : Nat) (l1 : Option Nat) (l2 : Option Nat) (l3 : Int32) : xm Int32 := k18 l1 l2 (l3 + (4 : Int32))
theorem t188_671 {sc : Nat × (Nat → Int32)} {F : Nat} {r : Int32} {h' : xv_H} {k18 : Option Nat → Option Nat → Int32 → xm Int32} (hk18 : ∀ (l1 : Option Nat) (l2 : Option Nat) (l3 : Int32) (h : xv_H), k18 l1 l2 l3 h = some (r, h') → xx sc 188 18 [some (va_rf (some xv_SB)), some (va_rf l1), some (va_rf l2), some (.int l3)] [] h (fun v g => v = some (.int r) ∧ g = h')) {l1 : Option Nat} {l2 : Option Nat} {l3 : Int32} {h : xv_H} (e : b188_671 sc k18 F l1 l2 l3 h = some (r, h')) : xx sc 188 671 [some (va_rf (some xv_SB)), some (va_rf l1), some (va_rf l2), some (.int l3)] [] h (fun v g => v = some (.int r) ∧ g = h') := by
  unfold b188_671 at e
  refine xo_iincV (z := 4) rfl (by decide) rfl (Nat.le_of_ble_eq_true rfl) rfl ?_
  refine xo_goto rfl rfl ?_
  exact hk18 _ _ _ _ e
def b188_669 (sc : Nat × (Nat → Int32)) (k18 : Option Nat → Option Nat → Int32 → xm Int32) (F : Nat) : xm Int32 := mb (bz (0 : Int32)) fun _ => mr (0 : Int32)
theorem t188_669 {sc : Nat × (Nat → Int32)} {F : Nat} {r : Int32} {h' : xv_H} {k18 : Option Nat → Option Nat → Int32 → xm Int32} (hk18 : ∀ (l1 : Option Nat) (l2 : Option Nat) (l3 : Int32) (h : xv_H), k18 l1 l2 l3 h = some (r, h') → xx sc 188 18 [some (va_rf (some xv_SB)), some (va_rf l1), some (va_rf l2), some (.int l3)] [] h (fun v g => v = some (.int r) ∧ g = h')) {d1 d2 d3 : Option Value} {h : xv_H} (e : b188_669 sc k18 F h = some (r, h')) : xx sc 188 669 [some (va_rf (some xv_SB)), d1, d2, d3] [] h (fun v g => v = some (.int r) ∧ g = h') := by
  unfold b188_669 at e
  refine xo_iconstV (x := 0) rfl (by decide) ?_
  exact d_zret rfl e
def b188_638 (sc : Nat × (Nat → Int32)) (k18 : Option Nat → Option Nat → Int32 → xm Int32) (F : Nat) (l1 : Option Nat) (l2 : Option Nat) (l3 : Int32) : xm Int32 := mb (ls sc (l3 + (1 : Int32))) fun v1 => mb (ls sc (l3 + (2 : Int32))) fun v2 => mb (nn l1) fun v3 => mb (vc 0 v3) fun _ => mb (m122 F v3 v1 v2) fun v4 => mb (ls sc (l3 + (1 : Int32))) fun v5 => mb (ls sc (l3 + (2 : Int32))) fun v6 => mb (nn l2) fun v7 => mb (vc 9 v7) fun _ => mb (m187 F v7 v5 v6) fun v8 => if v4 = v8 then b188_671 sc k18 F (some v3) (some v7) l3 else b188_669 sc k18 F
theorem t188_638 {sc : Nat × (Nat → Int32)} {F : Nat} {r : Int32} {h' : xv_H} {k18 : Option Nat → Option Nat → Int32 → xm Int32} (hk18 : ∀ (l1 : Option Nat) (l2 : Option Nat) (l3 : Int32) (h : xv_H), k18 l1 l2 l3 h = some (r, h') → xx sc 188 18 [some (va_rf (some xv_SB)), some (va_rf l1), some (va_rf l2), some (.int l3)] [] h (fun v g => v = some (.int r) ∧ g = h')) {l1 : Option Nat} {l2 : Option Nat} {l3 : Int32} {h : xv_H} (e : b188_638 sc k18 F l1 l2 l3 h = some (r, h')) : xx sc 188 638 [some (va_rf (some xv_SB)), some (va_rf l1), some (va_rf l2), some (.int l3)] [] h (fun v g => v = some (.int r) ∧ g = h') := by
  unfold b188_638 at e
  refine xo_aload_nQ (w := l1) rfl rfl ?_
  refine xo_aload_nQ (w := (some xv_SB)) rfl rfl ?_
  refine xo_iload_n rfl rfl ?_
  refine xo_iconstV (x := 1) rfl (by decide) ?_
  refine xo_iadd rfl ?_
  refine d_sald rfl e (fun v1 e => ?_)
  refine xo_aload_nQ (w := (some xv_SB)) rfl rfl ?_
  refine xo_iload_n rfl rfl ?_
  refine xo_iconstV (x := 2) rfl (by decide) ?_
  refine xo_iadd rfl ?_
  refine d_sald rfl e (fun v2 e => ?_)
  refine d_nn e (fun v3 g e1 => ?_)
  subst g
  replace e := e1
  clear e1
  refine d_virtual_i (av := [.int v1, .int v2]) (rest := []) rfl ⟨by decide, by decide⟩ rfl rfl (by simp [xv_fit, va_rf_cat, cat_int, cat_long, cat_ref, cat_null, show xt_mx 122 = 3 from rfl, show xt_lg 122 = [] from rfl]) (by simp [xv_room, va_rf_cat, cat_int, cat_long, cat_ref, cat_null]) (fun x0 h1 e1 => t122 e1) e (fun v4 h e => ?_)
  refine xo_aload_nQ (w := l2) rfl rfl ?_
  refine xo_aload_nQ (w := (some xv_SB)) rfl rfl ?_
  refine xo_iload_n rfl rfl ?_
  refine xo_iconstV (x := 1) rfl (by decide) ?_
  refine xo_iadd rfl ?_
  refine d_sald rfl e (fun v5 e => ?_)
  refine xo_aload_nQ (w := (some xv_SB)) rfl rfl ?_
  refine xo_iload_n rfl rfl ?_
  refine xo_iconstV (x := 2) rfl (by decide) ?_
  refine xo_iadd rfl ?_
  refine d_sald rfl e (fun v6 e => ?_)
  refine d_nn e (fun v7 g e1 => ?_)
  subst g
  replace e := e1
  clear e1
  refine d_virtual_i (av := [.int v5, .int v6]) (rest := [.int v4]) rfl ⟨by decide, by decide⟩ rfl rfl (by simp [xv_fit, va_rf_cat, cat_int, cat_long, cat_ref, cat_null, show xt_mx 187 = 3 from rfl, show xt_lg 187 = [] from rfl]) (by simp [xv_room, va_rf_cat, cat_int, cat_long, cat_ref, cat_null]) (fun x0 h1 e1 => t187 e1) e (fun v8 h e => ?_)
  refine d_icmp_eq rfl rfl e (fun _ e => ?_) (fun _ e => ?_)
  · exact t188_671 hk18 e
  · exact t188_669 hk18 e
def b188_636 (sc : Nat × (Nat → Int32)) (k18 : Option Nat → Option Nat → Int32 → xm Int32) (F : Nat) : xm Int32 := mb (bz (0 : Int32)) fun _ => mr (0 : Int32)
theorem t188_636 {sc : Nat × (Nat → Int32)} {F : Nat} {r : Int32} {h' : xv_H} {k18 : Option Nat → Option Nat → Int32 → xm Int32} (hk18 : ∀ (l1 : Option Nat) (l2 : Option Nat) (l3 : Int32) (h : xv_H), k18 l1 l2 l3 h = some (r, h') → xx sc 188 18 [some (va_rf (some xv_SB)), some (va_rf l1), some (va_rf l2), some (.int l3)] [] h (fun v g => v = some (.int r) ∧ g = h')) {d1 d2 d3 : Option Value} {h : xv_H} (e : b188_636 sc k18 F h = some (r, h')) : xx sc 188 636 [some (va_rf (some xv_SB)), d1, d2, d3] [] h (fun v g => v = some (.int r) ∧ g = h') := by
  unfold b188_636 at e
  refine xo_iconstV (x := 0) rfl (by decide) ?_
  exact d_zret rfl e
def b188_605 (sc : Nat × (Nat → Int32)) (k18 : Option Nat → Option Nat → Int32 → xm Int32) (F : Nat) (l1 : Option Nat) (l2 : Option Nat) (l3 : Int32) : xm Int32 := mb (ls sc (l3 + (1 : Int32))) fun v1 => mb (ls sc (l3 + (2 : Int32))) fun v2 => mb (nn l1) fun v3 => mb (vc 0 v3) fun _ => mb (m121 F v3 v1 v2) fun v4 => mb (ls sc (l3 + (1 : Int32))) fun v5 => mb (ls sc (l3 + (2 : Int32))) fun v6 => mb (nn l2) fun v7 => mb (vc 9 v7) fun _ => mb (m186 F v7 v5 v6) fun v8 => if v4 = v8 then b188_671 sc k18 F (some v3) (some v7) l3 else b188_636 sc k18 F
theorem t188_605 {sc : Nat × (Nat → Int32)} {F : Nat} {r : Int32} {h' : xv_H} {k18 : Option Nat → Option Nat → Int32 → xm Int32} (hk18 : ∀ (l1 : Option Nat) (l2 : Option Nat) (l3 : Int32) (h : xv_H), k18 l1 l2 l3 h = some (r, h') → xx sc 188 18 [some (va_rf (some xv_SB)), some (va_rf l1), some (va_rf l2), some (.int l3)] [] h (fun v g => v = some (.int r) ∧ g = h')) {l1 : Option Nat} {l2 : Option Nat} {l3 : Int32} {h : xv_H} (e : b188_605 sc k18 F l1 l2 l3 h = some (r, h')) : xx sc 188 605 [some (va_rf (some xv_SB)), some (va_rf l1), some (va_rf l2), some (.int l3)] [] h (fun v g => v = some (.int r) ∧ g = h') := by
  unfold b188_605 at e
  refine xo_aload_nQ (w := l1) rfl rfl ?_
  refine xo_aload_nQ (w := (some xv_SB)) rfl rfl ?_
  refine xo_iload_n rfl rfl ?_
  refine xo_iconstV (x := 1) rfl (by decide) ?_
  refine xo_iadd rfl ?_
  refine d_sald rfl e (fun v1 e => ?_)
  refine xo_aload_nQ (w := (some xv_SB)) rfl rfl ?_
  refine xo_iload_n rfl rfl ?_
  refine xo_iconstV (x := 2) rfl (by decide) ?_
  refine xo_iadd rfl ?_
  refine d_sald rfl e (fun v2 e => ?_)
  refine d_nn e (fun v3 g e1 => ?_)
  subst g
  replace e := e1
  clear e1
  refine d_virtual_i (av := [.int v1, .int v2]) (rest := []) rfl ⟨by decide, by decide⟩ rfl rfl (by simp [xv_fit, va_rf_cat, cat_int, cat_long, cat_ref, cat_null, show xt_mx 121 = 4 from rfl, show xt_lg 121 = [] from rfl]) (by simp [xv_room, va_rf_cat, cat_int, cat_long, cat_ref, cat_null]) (fun x0 h1 e1 => t121 e1) e (fun v4 h e => ?_)
  refine xo_aload_nQ (w := l2) rfl rfl ?_
  refine xo_aload_nQ (w := (some xv_SB)) rfl rfl ?_
  refine xo_iload_n rfl rfl ?_
  refine xo_iconstV (x := 1) rfl (by decide) ?_
  refine xo_iadd rfl ?_
  refine d_sald rfl e (fun v5 e => ?_)
  refine xo_aload_nQ (w := (some xv_SB)) rfl rfl ?_
  refine xo_iload_n rfl rfl ?_
  refine xo_iconstV (x := 2) rfl (by decide) ?_
  refine xo_iadd rfl ?_
  refine d_sald rfl e (fun v6 e => ?_)
  refine d_nn e (fun v7 g e1 => ?_)
  subst g
  replace e := e1
  clear e1
  refine d_virtual_i (av := [.int v5, .int v6]) (rest := [.int v4]) rfl ⟨by decide, by decide⟩ rfl rfl (by simp [xv_fit, va_rf_cat, cat_int, cat_long, cat_ref, cat_null, show xt_mx 186 = 5 from rfl, show xt_lg 186 = [3] from rfl]) (by simp [xv_room, va_rf_cat, cat_int, cat_long, cat_ref, cat_null]) (fun x0 h1 e1 => t186 e1) e (fun v8 h e => ?_)
  refine d_icmp_eq rfl rfl e (fun _ e => ?_) (fun _ e => ?_)
  · exact t188_671 hk18 e
  · exact t188_636 hk18 e
def b188_603 (sc : Nat × (Nat → Int32)) (k18 : Option Nat → Option Nat → Int32 → xm Int32) (F : Nat) : xm Int32 := mb (bz (0 : Int32)) fun _ => mr (0 : Int32)
theorem t188_603 {sc : Nat × (Nat → Int32)} {F : Nat} {r : Int32} {h' : xv_H} {k18 : Option Nat → Option Nat → Int32 → xm Int32} (hk18 : ∀ (l1 : Option Nat) (l2 : Option Nat) (l3 : Int32) (h : xv_H), k18 l1 l2 l3 h = some (r, h') → xx sc 188 18 [some (va_rf (some xv_SB)), some (va_rf l1), some (va_rf l2), some (.int l3)] [] h (fun v g => v = some (.int r) ∧ g = h')) {d1 d2 d3 : Option Value} {h : xv_H} (e : b188_603 sc k18 F h = some (r, h')) : xx sc 188 603 [some (va_rf (some xv_SB)), d1, d2, d3] [] h (fun v g => v = some (.int r) ∧ g = h') := by
  unfold b188_603 at e
  refine xo_iconstV (x := 0) rfl (by decide) ?_
  exact d_zret rfl e
def b188_572 (sc : Nat × (Nat → Int32)) (k18 : Option Nat → Option Nat → Int32 → xm Int32) (F : Nat) (l1 : Option Nat) (l2 : Option Nat) (l3 : Int32) : xm Int32 := mb (ls sc (l3 + (1 : Int32))) fun v1 => mb (ls sc (l3 + (2 : Int32))) fun v2 => mb (nn l1) fun v3 => mb (vc 0 v3) fun _ => mb (m120 F v3 v1 v2) fun v4 => mb (ls sc (l3 + (1 : Int32))) fun v5 => mb (ls sc (l3 + (2 : Int32))) fun v6 => mb (nn l2) fun v7 => mb (vc 9 v7) fun _ => mb (m185 F v7 v5 v6) fun v8 => if v4 = v8 then b188_671 sc k18 F (some v3) (some v7) l3 else b188_603 sc k18 F
theorem t188_572 {sc : Nat × (Nat → Int32)} {F : Nat} {r : Int32} {h' : xv_H} {k18 : Option Nat → Option Nat → Int32 → xm Int32} (hk18 : ∀ (l1 : Option Nat) (l2 : Option Nat) (l3 : Int32) (h : xv_H), k18 l1 l2 l3 h = some (r, h') → xx sc 188 18 [some (va_rf (some xv_SB)), some (va_rf l1), some (va_rf l2), some (.int l3)] [] h (fun v g => v = some (.int r) ∧ g = h')) {l1 : Option Nat} {l2 : Option Nat} {l3 : Int32} {h : xv_H} (e : b188_572 sc k18 F l1 l2 l3 h = some (r, h')) : xx sc 188 572 [some (va_rf (some xv_SB)), some (va_rf l1), some (va_rf l2), some (.int l3)] [] h (fun v g => v = some (.int r) ∧ g = h') := by
  unfold b188_572 at e
  refine xo_aload_nQ (w := l1) rfl rfl ?_
  refine xo_aload_nQ (w := (some xv_SB)) rfl rfl ?_
  refine xo_iload_n rfl rfl ?_
  refine xo_iconstV (x := 1) rfl (by decide) ?_
  refine xo_iadd rfl ?_
  refine d_sald rfl e (fun v1 e => ?_)
  refine xo_aload_nQ (w := (some xv_SB)) rfl rfl ?_
  refine xo_iload_n rfl rfl ?_
  refine xo_iconstV (x := 2) rfl (by decide) ?_
  refine xo_iadd rfl ?_
  refine d_sald rfl e (fun v2 e => ?_)
  refine d_nn e (fun v3 g e1 => ?_)
  subst g
  replace e := e1
  clear e1
  refine d_virtual_i (av := [.int v1, .int v2]) (rest := []) rfl ⟨by decide, by decide⟩ rfl rfl (by simp [xv_fit, va_rf_cat, cat_int, cat_long, cat_ref, cat_null, show xt_mx 120 = 4 from rfl, show xt_lg 120 = [] from rfl]) (by simp [xv_room, va_rf_cat, cat_int, cat_long, cat_ref, cat_null]) (fun x0 h1 e1 => t120 e1) e (fun v4 h e => ?_)
  refine xo_aload_nQ (w := l2) rfl rfl ?_
  refine xo_aload_nQ (w := (some xv_SB)) rfl rfl ?_
  refine xo_iload_n rfl rfl ?_
  refine xo_iconstV (x := 1) rfl (by decide) ?_
  refine xo_iadd rfl ?_
  refine d_sald rfl e (fun v5 e => ?_)
  refine xo_aload_nQ (w := (some xv_SB)) rfl rfl ?_
  refine xo_iload_n rfl rfl ?_
  refine xo_iconstV (x := 2) rfl (by decide) ?_
  refine xo_iadd rfl ?_
  refine d_sald rfl e (fun v6 e => ?_)
  refine d_nn e (fun v7 g e1 => ?_)
  subst g
  replace e := e1
  clear e1
  refine d_virtual_i (av := [.int v5, .int v6]) (rest := [.int v4]) rfl ⟨by decide, by decide⟩ rfl rfl (by simp [xv_fit, va_rf_cat, cat_int, cat_long, cat_ref, cat_null, show xt_mx 185 = 3 from rfl, show xt_lg 185 = [] from rfl]) (by simp [xv_room, va_rf_cat, cat_int, cat_long, cat_ref, cat_null]) (fun x0 h1 e1 => t185 e1) e (fun v8 h e => ?_)
  refine d_icmp_eq rfl rfl e (fun _ e => ?_) (fun _ e => ?_)
  · exact t188_671 hk18 e
  · exact t188_603 hk18 e
def b188_570 (sc : Nat × (Nat → Int32)) (k18 : Option Nat → Option Nat → Int32 → xm Int32) (F : Nat) : xm Int32 := mb (bz (0 : Int32)) fun _ => mr (0 : Int32)
theorem t188_570 {sc : Nat × (Nat → Int32)} {F : Nat} {r : Int32} {h' : xv_H} {k18 : Option Nat → Option Nat → Int32 → xm Int32} (hk18 : ∀ (l1 : Option Nat) (l2 : Option Nat) (l3 : Int32) (h : xv_H), k18 l1 l2 l3 h = some (r, h') → xx sc 188 18 [some (va_rf (some xv_SB)), some (va_rf l1), some (va_rf l2), some (.int l3)] [] h (fun v g => v = some (.int r) ∧ g = h')) {d1 d2 d3 : Option Value} {h : xv_H} (e : b188_570 sc k18 F h = some (r, h')) : xx sc 188 570 [some (va_rf (some xv_SB)), d1, d2, d3] [] h (fun v g => v = some (.int r) ∧ g = h') := by
  unfold b188_570 at e
  refine xo_iconstV (x := 0) rfl (by decide) ?_
  exact d_zret rfl e
def b188_539 (sc : Nat × (Nat → Int32)) (k18 : Option Nat → Option Nat → Int32 → xm Int32) (F : Nat) (l1 : Option Nat) (l2 : Option Nat) (l3 : Int32) : xm Int32 := mb (ls sc (l3 + (1 : Int32))) fun v1 => mb (ls sc (l3 + (2 : Int32))) fun v2 => mb (nn l1) fun v3 => mb (vc 0 v3) fun _ => mb (m118 F v3 v1 v2) fun v4 => mb (ls sc (l3 + (1 : Int32))) fun v5 => mb (ls sc (l3 + (2 : Int32))) fun v6 => mb (nn l2) fun v7 => mb (vc 9 v7) fun _ => mb (m184 F v7 v5 v6) fun v8 => if v4 = v8 then b188_671 sc k18 F (some v3) (some v7) l3 else b188_570 sc k18 F
theorem t188_539 {sc : Nat × (Nat → Int32)} {F : Nat} {r : Int32} {h' : xv_H} {k18 : Option Nat → Option Nat → Int32 → xm Int32} (hk18 : ∀ (l1 : Option Nat) (l2 : Option Nat) (l3 : Int32) (h : xv_H), k18 l1 l2 l3 h = some (r, h') → xx sc 188 18 [some (va_rf (some xv_SB)), some (va_rf l1), some (va_rf l2), some (.int l3)] [] h (fun v g => v = some (.int r) ∧ g = h')) {l1 : Option Nat} {l2 : Option Nat} {l3 : Int32} {h : xv_H} (e : b188_539 sc k18 F l1 l2 l3 h = some (r, h')) : xx sc 188 539 [some (va_rf (some xv_SB)), some (va_rf l1), some (va_rf l2), some (.int l3)] [] h (fun v g => v = some (.int r) ∧ g = h') := by
  unfold b188_539 at e
  refine xo_aload_nQ (w := l1) rfl rfl ?_
  refine xo_aload_nQ (w := (some xv_SB)) rfl rfl ?_
  refine xo_iload_n rfl rfl ?_
  refine xo_iconstV (x := 1) rfl (by decide) ?_
  refine xo_iadd rfl ?_
  refine d_sald rfl e (fun v1 e => ?_)
  refine xo_aload_nQ (w := (some xv_SB)) rfl rfl ?_
  refine xo_iload_n rfl rfl ?_
  refine xo_iconstV (x := 2) rfl (by decide) ?_
  refine xo_iadd rfl ?_
  refine d_sald rfl e (fun v2 e => ?_)
  refine d_nn e (fun v3 g e1 => ?_)
  subst g
  replace e := e1
  clear e1
  refine d_virtual_i (av := [.int v1, .int v2]) (rest := []) rfl ⟨by decide, by decide⟩ rfl rfl (by simp [xv_fit, va_rf_cat, cat_int, cat_long, cat_ref, cat_null, show xt_mx 118 = 4 from rfl, show xt_lg 118 = [] from rfl]) (by simp [xv_room, va_rf_cat, cat_int, cat_long, cat_ref, cat_null]) (fun x0 h1 e1 => t118 e1) e (fun v4 h e => ?_)
  refine xo_aload_nQ (w := l2) rfl rfl ?_
  refine xo_aload_nQ (w := (some xv_SB)) rfl rfl ?_
  refine xo_iload_n rfl rfl ?_
  refine xo_iconstV (x := 1) rfl (by decide) ?_
  refine xo_iadd rfl ?_
  refine d_sald rfl e (fun v5 e => ?_)
  refine xo_aload_nQ (w := (some xv_SB)) rfl rfl ?_
  refine xo_iload_n rfl rfl ?_
  refine xo_iconstV (x := 2) rfl (by decide) ?_
  refine xo_iadd rfl ?_
  refine d_sald rfl e (fun v6 e => ?_)
  refine d_nn e (fun v7 g e1 => ?_)
  subst g
  replace e := e1
  clear e1
  refine d_virtual_i (av := [.int v5, .int v6]) (rest := [.int v4]) rfl ⟨by decide, by decide⟩ rfl rfl (by simp [xv_fit, va_rf_cat, cat_int, cat_long, cat_ref, cat_null, show xt_mx 184 = 5 from rfl, show xt_lg 184 = [3] from rfl]) (by simp [xv_room, va_rf_cat, cat_int, cat_long, cat_ref, cat_null]) (fun x0 h1 e1 => t184 e1) e (fun v8 h e => ?_)
  refine d_icmp_eq rfl rfl e (fun _ e => ?_) (fun _ e => ?_)
  · exact t188_671 hk18 e
  · exact t188_570 hk18 e
def b188_537 (sc : Nat × (Nat → Int32)) (k18 : Option Nat → Option Nat → Int32 → xm Int32) (F : Nat) : xm Int32 := mb (bz (0 : Int32)) fun _ => mr (0 : Int32)
theorem t188_537 {sc : Nat × (Nat → Int32)} {F : Nat} {r : Int32} {h' : xv_H} {k18 : Option Nat → Option Nat → Int32 → xm Int32} (hk18 : ∀ (l1 : Option Nat) (l2 : Option Nat) (l3 : Int32) (h : xv_H), k18 l1 l2 l3 h = some (r, h') → xx sc 188 18 [some (va_rf (some xv_SB)), some (va_rf l1), some (va_rf l2), some (.int l3)] [] h (fun v g => v = some (.int r) ∧ g = h')) {d1 d2 d3 : Option Value} {h : xv_H} (e : b188_537 sc k18 F h = some (r, h')) : xx sc 188 537 [some (va_rf (some xv_SB)), d1, d2, d3] [] h (fun v g => v = some (.int r) ∧ g = h') := by
  unfold b188_537 at e
  refine xo_iconstV (x := 0) rfl (by decide) ?_
  exact d_zret rfl e
def b188_506 (sc : Nat × (Nat → Int32)) (k18 : Option Nat → Option Nat → Int32 → xm Int32) (F : Nat) (l1 : Option Nat) (l2 : Option Nat) (l3 : Int32) : xm Int32 := mb (ls sc (l3 + (1 : Int32))) fun v1 => mb (ls sc (l3 + (2 : Int32))) fun v2 => mb (nn l1) fun v3 => mb (vc 0 v3) fun _ => mb (m116 F v3 v1 v2) fun v4 => mb (ls sc (l3 + (1 : Int32))) fun v5 => mb (ls sc (l3 + (2 : Int32))) fun v6 => mb (nn l2) fun v7 => mb (vc 9 v7) fun _ => mb (m183 F v7 v5 v6) fun v8 => if v4 = v8 then b188_671 sc k18 F (some v3) (some v7) l3 else b188_537 sc k18 F
theorem t188_506 {sc : Nat × (Nat → Int32)} {F : Nat} {r : Int32} {h' : xv_H} {k18 : Option Nat → Option Nat → Int32 → xm Int32} (hk18 : ∀ (l1 : Option Nat) (l2 : Option Nat) (l3 : Int32) (h : xv_H), k18 l1 l2 l3 h = some (r, h') → xx sc 188 18 [some (va_rf (some xv_SB)), some (va_rf l1), some (va_rf l2), some (.int l3)] [] h (fun v g => v = some (.int r) ∧ g = h')) {l1 : Option Nat} {l2 : Option Nat} {l3 : Int32} {h : xv_H} (e : b188_506 sc k18 F l1 l2 l3 h = some (r, h')) : xx sc 188 506 [some (va_rf (some xv_SB)), some (va_rf l1), some (va_rf l2), some (.int l3)] [] h (fun v g => v = some (.int r) ∧ g = h') := by
  unfold b188_506 at e
  refine xo_aload_nQ (w := l1) rfl rfl ?_
  refine xo_aload_nQ (w := (some xv_SB)) rfl rfl ?_
  refine xo_iload_n rfl rfl ?_
  refine xo_iconstV (x := 1) rfl (by decide) ?_
  refine xo_iadd rfl ?_
  refine d_sald rfl e (fun v1 e => ?_)
  refine xo_aload_nQ (w := (some xv_SB)) rfl rfl ?_
  refine xo_iload_n rfl rfl ?_
  refine xo_iconstV (x := 2) rfl (by decide) ?_
  refine xo_iadd rfl ?_
  refine d_sald rfl e (fun v2 e => ?_)
  refine d_nn e (fun v3 g e1 => ?_)
  subst g
  replace e := e1
  clear e1
  refine d_virtual_i (av := [.int v1, .int v2]) (rest := []) rfl ⟨by decide, by decide⟩ rfl rfl (by simp [xv_fit, va_rf_cat, cat_int, cat_long, cat_ref, cat_null, show xt_mx 116 = 4 from rfl, show xt_lg 116 = [] from rfl]) (by simp [xv_room, va_rf_cat, cat_int, cat_long, cat_ref, cat_null]) (fun x0 h1 e1 => t116 e1) e (fun v4 h e => ?_)
  refine xo_aload_nQ (w := l2) rfl rfl ?_
  refine xo_aload_nQ (w := (some xv_SB)) rfl rfl ?_
  refine xo_iload_n rfl rfl ?_
  refine xo_iconstV (x := 1) rfl (by decide) ?_
  refine xo_iadd rfl ?_
  refine d_sald rfl e (fun v5 e => ?_)
  refine xo_aload_nQ (w := (some xv_SB)) rfl rfl ?_
  refine xo_iload_n rfl rfl ?_
  refine xo_iconstV (x := 2) rfl (by decide) ?_
  refine xo_iadd rfl ?_
  refine d_sald rfl e (fun v6 e => ?_)
  refine d_nn e (fun v7 g e1 => ?_)
  subst g
  replace e := e1
  clear e1
  refine d_virtual_i (av := [.int v5, .int v6]) (rest := [.int v4]) rfl ⟨by decide, by decide⟩ rfl rfl (by simp [xv_fit, va_rf_cat, cat_int, cat_long, cat_ref, cat_null, show xt_mx 183 = 3 from rfl, show xt_lg 183 = [] from rfl]) (by simp [xv_room, va_rf_cat, cat_int, cat_long, cat_ref, cat_null]) (fun x0 h1 e1 => t183 e1) e (fun v8 h e => ?_)
  refine d_icmp_eq rfl rfl e (fun _ e => ?_) (fun _ e => ?_)
  · exact t188_671 hk18 e
  · exact t188_537 hk18 e
def b188_504 (sc : Nat × (Nat → Int32)) (k18 : Option Nat → Option Nat → Int32 → xm Int32) (F : Nat) : xm Int32 := mb (bz (0 : Int32)) fun _ => mr (0 : Int32)
theorem t188_504 {sc : Nat × (Nat → Int32)} {F : Nat} {r : Int32} {h' : xv_H} {k18 : Option Nat → Option Nat → Int32 → xm Int32} (hk18 : ∀ (l1 : Option Nat) (l2 : Option Nat) (l3 : Int32) (h : xv_H), k18 l1 l2 l3 h = some (r, h') → xx sc 188 18 [some (va_rf (some xv_SB)), some (va_rf l1), some (va_rf l2), some (.int l3)] [] h (fun v g => v = some (.int r) ∧ g = h')) {d1 d2 d3 : Option Value} {h : xv_H} (e : b188_504 sc k18 F h = some (r, h')) : xx sc 188 504 [some (va_rf (some xv_SB)), d1, d2, d3] [] h (fun v g => v = some (.int r) ∧ g = h') := by
  unfold b188_504 at e
  refine xo_iconstV (x := 0) rfl (by decide) ?_
  exact d_zret rfl e
def b188_473 (sc : Nat × (Nat → Int32)) (k18 : Option Nat → Option Nat → Int32 → xm Int32) (F : Nat) (l1 : Option Nat) (l2 : Option Nat) (l3 : Int32) : xm Int32 := mb (ls sc (l3 + (1 : Int32))) fun v1 => mb (ls sc (l3 + (2 : Int32))) fun v2 => mb (nn l1) fun v3 => mb (vc 0 v3) fun _ => mb (m112 F v3 v1 v2) fun v4 => mb (ls sc (l3 + (1 : Int32))) fun v5 => mb (ls sc (l3 + (2 : Int32))) fun v6 => mb (nn l2) fun v7 => mb (vc 9 v7) fun _ => mb (m182 F v7 v5 v6) fun v8 => if v4 = v8 then b188_671 sc k18 F (some v3) (some v7) l3 else b188_504 sc k18 F
theorem t188_473 {sc : Nat × (Nat → Int32)} {F : Nat} {r : Int32} {h' : xv_H} {k18 : Option Nat → Option Nat → Int32 → xm Int32} (hk18 : ∀ (l1 : Option Nat) (l2 : Option Nat) (l3 : Int32) (h : xv_H), k18 l1 l2 l3 h = some (r, h') → xx sc 188 18 [some (va_rf (some xv_SB)), some (va_rf l1), some (va_rf l2), some (.int l3)] [] h (fun v g => v = some (.int r) ∧ g = h')) {l1 : Option Nat} {l2 : Option Nat} {l3 : Int32} {h : xv_H} (e : b188_473 sc k18 F l1 l2 l3 h = some (r, h')) : xx sc 188 473 [some (va_rf (some xv_SB)), some (va_rf l1), some (va_rf l2), some (.int l3)] [] h (fun v g => v = some (.int r) ∧ g = h') := by
  unfold b188_473 at e
  refine xo_aload_nQ (w := l1) rfl rfl ?_
  refine xo_aload_nQ (w := (some xv_SB)) rfl rfl ?_
  refine xo_iload_n rfl rfl ?_
  refine xo_iconstV (x := 1) rfl (by decide) ?_
  refine xo_iadd rfl ?_
  refine d_sald rfl e (fun v1 e => ?_)
  refine xo_aload_nQ (w := (some xv_SB)) rfl rfl ?_
  refine xo_iload_n rfl rfl ?_
  refine xo_iconstV (x := 2) rfl (by decide) ?_
  refine xo_iadd rfl ?_
  refine d_sald rfl e (fun v2 e => ?_)
  refine d_nn e (fun v3 g e1 => ?_)
  subst g
  replace e := e1
  clear e1
  refine d_virtual_i (av := [.int v1, .int v2]) (rest := []) rfl ⟨by decide, by decide⟩ rfl rfl (by simp [xv_fit, va_rf_cat, cat_int, cat_long, cat_ref, cat_null, show xt_mx 112 = 4 from rfl, show xt_lg 112 = [] from rfl]) (by simp [xv_room, va_rf_cat, cat_int, cat_long, cat_ref, cat_null]) (fun x0 h1 e1 => t112 e1) e (fun v4 h e => ?_)
  refine xo_aload_nQ (w := l2) rfl rfl ?_
  refine xo_aload_nQ (w := (some xv_SB)) rfl rfl ?_
  refine xo_iload_n rfl rfl ?_
  refine xo_iconstV (x := 1) rfl (by decide) ?_
  refine xo_iadd rfl ?_
  refine d_sald rfl e (fun v5 e => ?_)
  refine xo_aload_nQ (w := (some xv_SB)) rfl rfl ?_
  refine xo_iload_n rfl rfl ?_
  refine xo_iconstV (x := 2) rfl (by decide) ?_
  refine xo_iadd rfl ?_
  refine d_sald rfl e (fun v6 e => ?_)
  refine d_nn e (fun v7 g e1 => ?_)
  subst g
  replace e := e1
  clear e1
  refine d_virtual_i (av := [.int v5, .int v6]) (rest := [.int v4]) rfl ⟨by decide, by decide⟩ rfl rfl (by simp [xv_fit, va_rf_cat, cat_int, cat_long, cat_ref, cat_null, show xt_mx 182 = 3 from rfl, show xt_lg 182 = [] from rfl]) (by simp [xv_room, va_rf_cat, cat_int, cat_long, cat_ref, cat_null]) (fun x0 h1 e1 => t182 e1) e (fun v8 h e => ?_)
  refine d_icmp_eq rfl rfl e (fun _ e => ?_) (fun _ e => ?_)
  · exact t188_671 hk18 e
  · exact t188_504 hk18 e
def b188_471 (sc : Nat × (Nat → Int32)) (k18 : Option Nat → Option Nat → Int32 → xm Int32) (F : Nat) : xm Int32 := mb (bz (0 : Int32)) fun _ => mr (0 : Int32)
theorem t188_471 {sc : Nat × (Nat → Int32)} {F : Nat} {r : Int32} {h' : xv_H} {k18 : Option Nat → Option Nat → Int32 → xm Int32} (hk18 : ∀ (l1 : Option Nat) (l2 : Option Nat) (l3 : Int32) (h : xv_H), k18 l1 l2 l3 h = some (r, h') → xx sc 188 18 [some (va_rf (some xv_SB)), some (va_rf l1), some (va_rf l2), some (.int l3)] [] h (fun v g => v = some (.int r) ∧ g = h')) {d1 d2 d3 : Option Value} {h : xv_H} (e : b188_471 sc k18 F h = some (r, h')) : xx sc 188 471 [some (va_rf (some xv_SB)), d1, d2, d3] [] h (fun v g => v = some (.int r) ∧ g = h') := by
  unfold b188_471 at e
  refine xo_iconstV (x := 0) rfl (by decide) ?_
  exact d_zret rfl e
def b188_450 (sc : Nat × (Nat → Int32)) (k18 : Option Nat → Option Nat → Int32 → xm Int32) (F : Nat) (l1 : Option Nat) (l2 : Option Nat) (l3 : Int32) : xm Int32 := mb (ls sc (l3 + (1 : Int32))) fun v1 => mb (nn l1) fun v2 => mb (vc 0 v2) fun _ => mb (m111 F v2 v1) fun v3 => mb (ls sc (l3 + (1 : Int32))) fun v4 => mb (nn l2) fun v5 => mb (vc 9 v5) fun _ => mb (m181 F v5 v4) fun v6 => if v3 = v6 then b188_671 sc k18 F (some v2) (some v5) l3 else b188_471 sc k18 F
theorem t188_450 {sc : Nat × (Nat → Int32)} {F : Nat} {r : Int32} {h' : xv_H} {k18 : Option Nat → Option Nat → Int32 → xm Int32} (hk18 : ∀ (l1 : Option Nat) (l2 : Option Nat) (l3 : Int32) (h : xv_H), k18 l1 l2 l3 h = some (r, h') → xx sc 188 18 [some (va_rf (some xv_SB)), some (va_rf l1), some (va_rf l2), some (.int l3)] [] h (fun v g => v = some (.int r) ∧ g = h')) {l1 : Option Nat} {l2 : Option Nat} {l3 : Int32} {h : xv_H} (e : b188_450 sc k18 F l1 l2 l3 h = some (r, h')) : xx sc 188 450 [some (va_rf (some xv_SB)), some (va_rf l1), some (va_rf l2), some (.int l3)] [] h (fun v g => v = some (.int r) ∧ g = h') := by
  unfold b188_450 at e
  refine xo_aload_nQ (w := l1) rfl rfl ?_
  refine xo_aload_nQ (w := (some xv_SB)) rfl rfl ?_
  refine xo_iload_n rfl rfl ?_
  refine xo_iconstV (x := 1) rfl (by decide) ?_
  refine xo_iadd rfl ?_
  refine d_sald rfl e (fun v1 e => ?_)
  refine d_nn e (fun v2 g e1 => ?_)
  subst g
  replace e := e1
  clear e1
  refine d_virtual_i (av := [.int v1]) (rest := []) rfl ⟨by decide, by decide⟩ rfl rfl (by simp [xv_fit, va_rf_cat, cat_int, cat_long, cat_ref, cat_null, show xt_mx 111 = 2 from rfl, show xt_lg 111 = [] from rfl]) (by simp [xv_room, va_rf_cat, cat_int, cat_long, cat_ref, cat_null]) (fun x0 h1 e1 => t111 e1) e (fun v3 h e => ?_)
  refine xo_aload_nQ (w := l2) rfl rfl ?_
  refine xo_aload_nQ (w := (some xv_SB)) rfl rfl ?_
  refine xo_iload_n rfl rfl ?_
  refine xo_iconstV (x := 1) rfl (by decide) ?_
  refine xo_iadd rfl ?_
  refine d_sald rfl e (fun v4 e => ?_)
  refine d_nn e (fun v5 g e1 => ?_)
  subst g
  replace e := e1
  clear e1
  refine d_virtual_i (av := [.int v4]) (rest := [.int v3]) rfl ⟨by decide, by decide⟩ rfl rfl (by simp [xv_fit, va_rf_cat, cat_int, cat_long, cat_ref, cat_null, show xt_mx 181 = 2 from rfl, show xt_lg 181 = [] from rfl]) (by simp [xv_room, va_rf_cat, cat_int, cat_long, cat_ref, cat_null]) (fun x0 h1 e1 => t181 e1) e (fun v6 h e => ?_)
  refine d_icmp_eq rfl rfl e (fun _ e => ?_) (fun _ e => ?_)
  · exact t188_671 hk18 e
  · exact t188_471 hk18 e
def b188_448 (sc : Nat × (Nat → Int32)) (k18 : Option Nat → Option Nat → Int32 → xm Int32) (F : Nat) : xm Int32 := mb (bz (0 : Int32)) fun _ => mr (0 : Int32)
theorem t188_448 {sc : Nat × (Nat → Int32)} {F : Nat} {r : Int32} {h' : xv_H} {k18 : Option Nat → Option Nat → Int32 → xm Int32} (hk18 : ∀ (l1 : Option Nat) (l2 : Option Nat) (l3 : Int32) (h : xv_H), k18 l1 l2 l3 h = some (r, h') → xx sc 188 18 [some (va_rf (some xv_SB)), some (va_rf l1), some (va_rf l2), some (.int l3)] [] h (fun v g => v = some (.int r) ∧ g = h')) {d1 d2 d3 : Option Value} {h : xv_H} (e : b188_448 sc k18 F h = some (r, h')) : xx sc 188 448 [some (va_rf (some xv_SB)), d1, d2, d3] [] h (fun v g => v = some (.int r) ∧ g = h') := by
  unfold b188_448 at e
  refine xo_iconstV (x := 0) rfl (by decide) ?_
  exact d_zret rfl e
def b188_427 (sc : Nat × (Nat → Int32)) (k18 : Option Nat → Option Nat → Int32 → xm Int32) (F : Nat) (l1 : Option Nat) (l2 : Option Nat) (l3 : Int32) : xm Int32 := mb (ls sc (l3 + (1 : Int32))) fun v1 => mb (nn l1) fun v2 => mb (vc 0 v2) fun _ => mb (m105 F v2 v1) fun v3 => mb (ls sc (l3 + (1 : Int32))) fun v4 => mb (nn l2) fun v5 => mb (vc 9 v5) fun _ => mb (m171 F v5 v4) fun v6 => if v3 = v6 then b188_671 sc k18 F (some v2) (some v5) l3 else b188_448 sc k18 F
theorem t188_427 {sc : Nat × (Nat → Int32)} {F : Nat} {r : Int32} {h' : xv_H} {k18 : Option Nat → Option Nat → Int32 → xm Int32} (hk18 : ∀ (l1 : Option Nat) (l2 : Option Nat) (l3 : Int32) (h : xv_H), k18 l1 l2 l3 h = some (r, h') → xx sc 188 18 [some (va_rf (some xv_SB)), some (va_rf l1), some (va_rf l2), some (.int l3)] [] h (fun v g => v = some (.int r) ∧ g = h')) {l1 : Option Nat} {l2 : Option Nat} {l3 : Int32} {h : xv_H} (e : b188_427 sc k18 F l1 l2 l3 h = some (r, h')) : xx sc 188 427 [some (va_rf (some xv_SB)), some (va_rf l1), some (va_rf l2), some (.int l3)] [] h (fun v g => v = some (.int r) ∧ g = h') := by
  unfold b188_427 at e
  refine xo_aload_nQ (w := l1) rfl rfl ?_
  refine xo_aload_nQ (w := (some xv_SB)) rfl rfl ?_
  refine xo_iload_n rfl rfl ?_
  refine xo_iconstV (x := 1) rfl (by decide) ?_
  refine xo_iadd rfl ?_
  refine d_sald rfl e (fun v1 e => ?_)
  refine d_nn e (fun v2 g e1 => ?_)
  subst g
  replace e := e1
  clear e1
  refine d_virtual_i (av := [.int v1]) (rest := []) rfl ⟨by decide, by decide⟩ rfl rfl (by simp [xv_fit, va_rf_cat, cat_int, cat_long, cat_ref, cat_null, show xt_mx 105 = 3 from rfl, show xt_lg 105 = [] from rfl]) (by simp [xv_room, va_rf_cat, cat_int, cat_long, cat_ref, cat_null]) (fun x0 h1 e1 => t105 e1) e (fun v3 h e => ?_)
  refine xo_aload_nQ (w := l2) rfl rfl ?_
  refine xo_aload_nQ (w := (some xv_SB)) rfl rfl ?_
  refine xo_iload_n rfl rfl ?_
  refine xo_iconstV (x := 1) rfl (by decide) ?_
  refine xo_iadd rfl ?_
  refine d_sald rfl e (fun v4 e => ?_)
  refine d_nn e (fun v5 g e1 => ?_)
  subst g
  replace e := e1
  clear e1
  refine d_virtual_i (av := [.int v4]) (rest := [.int v3]) rfl ⟨by decide, by decide⟩ rfl rfl (by simp [xv_fit, va_rf_cat, cat_int, cat_long, cat_ref, cat_null, show xt_mx 171 = 7 from rfl, show xt_lg 171 = [] from rfl]) (by simp [xv_room, va_rf_cat, cat_int, cat_long, cat_ref, cat_null]) (fun x0 h1 e1 => t171 e1) e (fun v6 h e => ?_)
  refine d_icmp_eq rfl rfl e (fun _ e => ?_) (fun _ e => ?_)
  · exact t188_671 hk18 e
  · exact t188_448 hk18 e
def b188_425 (sc : Nat × (Nat → Int32)) (k18 : Option Nat → Option Nat → Int32 → xm Int32) (F : Nat) : xm Int32 := mb (bz (0 : Int32)) fun _ => mr (0 : Int32)
theorem t188_425 {sc : Nat × (Nat → Int32)} {F : Nat} {r : Int32} {h' : xv_H} {k18 : Option Nat → Option Nat → Int32 → xm Int32} (hk18 : ∀ (l1 : Option Nat) (l2 : Option Nat) (l3 : Int32) (h : xv_H), k18 l1 l2 l3 h = some (r, h') → xx sc 188 18 [some (va_rf (some xv_SB)), some (va_rf l1), some (va_rf l2), some (.int l3)] [] h (fun v g => v = some (.int r) ∧ g = h')) {d1 d2 d3 : Option Value} {h : xv_H} (e : b188_425 sc k18 F h = some (r, h')) : xx sc 188 425 [some (va_rf (some xv_SB)), d1, d2, d3] [] h (fun v g => v = some (.int r) ∧ g = h') := by
  unfold b188_425 at e
  refine xo_iconstV (x := 0) rfl (by decide) ?_
  exact d_zret rfl e
def b188_404 (sc : Nat × (Nat → Int32)) (k18 : Option Nat → Option Nat → Int32 → xm Int32) (F : Nat) (l1 : Option Nat) (l2 : Option Nat) (l3 : Int32) : xm Int32 := mb (ls sc (l3 + (1 : Int32))) fun v1 => mb (nn l1) fun v2 => mb (vc 0 v2) fun _ => mb (m104 F v2 v1) fun v3 => mb (ls sc (l3 + (1 : Int32))) fun v4 => mb (nn l2) fun v5 => mb (vc 9 v5) fun _ => mb (m180 F v5 v4) fun v6 => if v3 = v6 then b188_671 sc k18 F (some v2) (some v5) l3 else b188_425 sc k18 F
theorem t188_404 {sc : Nat × (Nat → Int32)} {F : Nat} {r : Int32} {h' : xv_H} {k18 : Option Nat → Option Nat → Int32 → xm Int32} (hk18 : ∀ (l1 : Option Nat) (l2 : Option Nat) (l3 : Int32) (h : xv_H), k18 l1 l2 l3 h = some (r, h') → xx sc 188 18 [some (va_rf (some xv_SB)), some (va_rf l1), some (va_rf l2), some (.int l3)] [] h (fun v g => v = some (.int r) ∧ g = h')) {l1 : Option Nat} {l2 : Option Nat} {l3 : Int32} {h : xv_H} (e : b188_404 sc k18 F l1 l2 l3 h = some (r, h')) : xx sc 188 404 [some (va_rf (some xv_SB)), some (va_rf l1), some (va_rf l2), some (.int l3)] [] h (fun v g => v = some (.int r) ∧ g = h') := by
  unfold b188_404 at e
  refine xo_aload_nQ (w := l1) rfl rfl ?_
  refine xo_aload_nQ (w := (some xv_SB)) rfl rfl ?_
  refine xo_iload_n rfl rfl ?_
  refine xo_iconstV (x := 1) rfl (by decide) ?_
  refine xo_iadd rfl ?_
  refine d_sald rfl e (fun v1 e => ?_)
  refine d_nn e (fun v2 g e1 => ?_)
  subst g
  replace e := e1
  clear e1
  refine d_virtual_i (av := [.int v1]) (rest := []) rfl ⟨by decide, by decide⟩ rfl rfl (by simp [xv_fit, va_rf_cat, cat_int, cat_long, cat_ref, cat_null, show xt_mx 104 = 2 from rfl, show xt_lg 104 = [] from rfl]) (by simp [xv_room, va_rf_cat, cat_int, cat_long, cat_ref, cat_null]) (fun x0 h1 e1 => t104 e1) e (fun v3 h e => ?_)
  refine xo_aload_nQ (w := l2) rfl rfl ?_
  refine xo_aload_nQ (w := (some xv_SB)) rfl rfl ?_
  refine xo_iload_n rfl rfl ?_
  refine xo_iconstV (x := 1) rfl (by decide) ?_
  refine xo_iadd rfl ?_
  refine d_sald rfl e (fun v4 e => ?_)
  refine d_nn e (fun v5 g e1 => ?_)
  subst g
  replace e := e1
  clear e1
  refine d_virtual_i (av := [.int v4]) (rest := [.int v3]) rfl ⟨by decide, by decide⟩ rfl rfl (by simp [xv_fit, va_rf_cat, cat_int, cat_long, cat_ref, cat_null, show xt_mx 180 = 2 from rfl, show xt_lg 180 = [] from rfl]) (by simp [xv_room, va_rf_cat, cat_int, cat_long, cat_ref, cat_null]) (fun x0 h1 e1 => t180 e1) e (fun v6 h e => ?_)
  refine d_icmp_eq rfl rfl e (fun _ e => ?_) (fun _ e => ?_)
  · exact t188_671 hk18 e
  · exact t188_425 hk18 e
def b188_402 (sc : Nat × (Nat → Int32)) (k18 : Option Nat → Option Nat → Int32 → xm Int32) (F : Nat) : xm Int32 := mb (bz (0 : Int32)) fun _ => mr (0 : Int32)
theorem t188_402 {sc : Nat × (Nat → Int32)} {F : Nat} {r : Int32} {h' : xv_H} {k18 : Option Nat → Option Nat → Int32 → xm Int32} (hk18 : ∀ (l1 : Option Nat) (l2 : Option Nat) (l3 : Int32) (h : xv_H), k18 l1 l2 l3 h = some (r, h') → xx sc 188 18 [some (va_rf (some xv_SB)), some (va_rf l1), some (va_rf l2), some (.int l3)] [] h (fun v g => v = some (.int r) ∧ g = h')) {d1 d2 d3 : Option Value} {h : xv_H} (e : b188_402 sc k18 F h = some (r, h')) : xx sc 188 402 [some (va_rf (some xv_SB)), d1, d2, d3] [] h (fun v g => v = some (.int r) ∧ g = h') := by
  unfold b188_402 at e
  refine xo_iconstV (x := 0) rfl (by decide) ?_
  exact d_zret rfl e
def b188_381 (sc : Nat × (Nat → Int32)) (k18 : Option Nat → Option Nat → Int32 → xm Int32) (F : Nat) (l1 : Option Nat) (l2 : Option Nat) (l3 : Int32) : xm Int32 := mb (ls sc (l3 + (1 : Int32))) fun v1 => mb (nn l1) fun v2 => mb (vc 0 v2) fun _ => mb (m100 F v2 v1) fun v3 => mb (ls sc (l3 + (1 : Int32))) fun v4 => mb (nn l2) fun v5 => mb (vc 9 v5) fun _ => mb (m179 F v5 v4) fun v6 => if v3 = v6 then b188_671 sc k18 F (some v2) (some v5) l3 else b188_402 sc k18 F
theorem t188_381 {sc : Nat × (Nat → Int32)} {F : Nat} {r : Int32} {h' : xv_H} {k18 : Option Nat → Option Nat → Int32 → xm Int32} (hk18 : ∀ (l1 : Option Nat) (l2 : Option Nat) (l3 : Int32) (h : xv_H), k18 l1 l2 l3 h = some (r, h') → xx sc 188 18 [some (va_rf (some xv_SB)), some (va_rf l1), some (va_rf l2), some (.int l3)] [] h (fun v g => v = some (.int r) ∧ g = h')) {l1 : Option Nat} {l2 : Option Nat} {l3 : Int32} {h : xv_H} (e : b188_381 sc k18 F l1 l2 l3 h = some (r, h')) : xx sc 188 381 [some (va_rf (some xv_SB)), some (va_rf l1), some (va_rf l2), some (.int l3)] [] h (fun v g => v = some (.int r) ∧ g = h') := by
  unfold b188_381 at e
  refine xo_aload_nQ (w := l1) rfl rfl ?_
  refine xo_aload_nQ (w := (some xv_SB)) rfl rfl ?_
  refine xo_iload_n rfl rfl ?_
  refine xo_iconstV (x := 1) rfl (by decide) ?_
  refine xo_iadd rfl ?_
  refine d_sald rfl e (fun v1 e => ?_)
  refine d_nn e (fun v2 g e1 => ?_)
  subst g
  replace e := e1
  clear e1
  refine d_virtual_i (av := [.int v1]) (rest := []) rfl ⟨by decide, by decide⟩ rfl rfl (by simp [xv_fit, va_rf_cat, cat_int, cat_long, cat_ref, cat_null, show xt_mx 100 = 2 from rfl, show xt_lg 100 = [] from rfl]) (by simp [xv_room, va_rf_cat, cat_int, cat_long, cat_ref, cat_null]) (fun x0 h1 e1 => t100 e1) e (fun v3 h e => ?_)
  refine xo_aload_nQ (w := l2) rfl rfl ?_
  refine xo_aload_nQ (w := (some xv_SB)) rfl rfl ?_
  refine xo_iload_n rfl rfl ?_
  refine xo_iconstV (x := 1) rfl (by decide) ?_
  refine xo_iadd rfl ?_
  refine d_sald rfl e (fun v4 e => ?_)
  refine d_nn e (fun v5 g e1 => ?_)
  subst g
  replace e := e1
  clear e1
  refine d_virtual_i (av := [.int v4]) (rest := [.int v3]) rfl ⟨by decide, by decide⟩ rfl rfl (by simp [xv_fit, va_rf_cat, cat_int, cat_long, cat_ref, cat_null, show xt_mx 179 = 4 from rfl, show xt_lg 179 = [] from rfl]) (by simp [xv_room, va_rf_cat, cat_int, cat_long, cat_ref, cat_null]) (fun x0 h1 e1 => t179 e1) e (fun v6 h e => ?_)
  refine d_icmp_eq rfl rfl e (fun _ e => ?_) (fun _ e => ?_)
  · exact t188_671 hk18 e
  · exact t188_402 hk18 e
def b188_379 (sc : Nat × (Nat → Int32)) (k18 : Option Nat → Option Nat → Int32 → xm Int32) (F : Nat) : xm Int32 := mb (bz (0 : Int32)) fun _ => mr (0 : Int32)
theorem t188_379 {sc : Nat × (Nat → Int32)} {F : Nat} {r : Int32} {h' : xv_H} {k18 : Option Nat → Option Nat → Int32 → xm Int32} (hk18 : ∀ (l1 : Option Nat) (l2 : Option Nat) (l3 : Int32) (h : xv_H), k18 l1 l2 l3 h = some (r, h') → xx sc 188 18 [some (va_rf (some xv_SB)), some (va_rf l1), some (va_rf l2), some (.int l3)] [] h (fun v g => v = some (.int r) ∧ g = h')) {d1 d2 d3 : Option Value} {h : xv_H} (e : b188_379 sc k18 F h = some (r, h')) : xx sc 188 379 [some (va_rf (some xv_SB)), d1, d2, d3] [] h (fun v g => v = some (.int r) ∧ g = h') := by
  unfold b188_379 at e
  refine xo_iconstV (x := 0) rfl (by decide) ?_
  exact d_zret rfl e
def b188_358 (sc : Nat × (Nat → Int32)) (k18 : Option Nat → Option Nat → Int32 → xm Int32) (F : Nat) (l1 : Option Nat) (l2 : Option Nat) (l3 : Int32) : xm Int32 := mb (ls sc (l3 + (1 : Int32))) fun v1 => mb (nn l1) fun v2 => mb (vc 0 v2) fun _ => mb (m99 F v2 v1) fun v3 => mb (ls sc (l3 + (1 : Int32))) fun v4 => mb (nn l2) fun v5 => mb (vc 9 v5) fun _ => mb (m178 F v5 v4) fun v6 => if v3 = v6 then b188_671 sc k18 F (some v2) (some v5) l3 else b188_379 sc k18 F
theorem t188_358 {sc : Nat × (Nat → Int32)} {F : Nat} {r : Int32} {h' : xv_H} {k18 : Option Nat → Option Nat → Int32 → xm Int32} (hk18 : ∀ (l1 : Option Nat) (l2 : Option Nat) (l3 : Int32) (h : xv_H), k18 l1 l2 l3 h = some (r, h') → xx sc 188 18 [some (va_rf (some xv_SB)), some (va_rf l1), some (va_rf l2), some (.int l3)] [] h (fun v g => v = some (.int r) ∧ g = h')) {l1 : Option Nat} {l2 : Option Nat} {l3 : Int32} {h : xv_H} (e : b188_358 sc k18 F l1 l2 l3 h = some (r, h')) : xx sc 188 358 [some (va_rf (some xv_SB)), some (va_rf l1), some (va_rf l2), some (.int l3)] [] h (fun v g => v = some (.int r) ∧ g = h') := by
  unfold b188_358 at e
  refine xo_aload_nQ (w := l1) rfl rfl ?_
  refine xo_aload_nQ (w := (some xv_SB)) rfl rfl ?_
  refine xo_iload_n rfl rfl ?_
  refine xo_iconstV (x := 1) rfl (by decide) ?_
  refine xo_iadd rfl ?_
  refine d_sald rfl e (fun v1 e => ?_)
  refine d_nn e (fun v2 g e1 => ?_)
  subst g
  replace e := e1
  clear e1
  refine d_virtual_i (av := [.int v1]) (rest := []) rfl ⟨by decide, by decide⟩ rfl rfl (by simp [xv_fit, va_rf_cat, cat_int, cat_long, cat_ref, cat_null, show xt_mx 99 = 2 from rfl, show xt_lg 99 = [] from rfl]) (by simp [xv_room, va_rf_cat, cat_int, cat_long, cat_ref, cat_null]) (fun x0 h1 e1 => t99 e1) e (fun v3 h e => ?_)
  refine xo_aload_nQ (w := l2) rfl rfl ?_
  refine xo_aload_nQ (w := (some xv_SB)) rfl rfl ?_
  refine xo_iload_n rfl rfl ?_
  refine xo_iconstV (x := 1) rfl (by decide) ?_
  refine xo_iadd rfl ?_
  refine d_sald rfl e (fun v4 e => ?_)
  refine d_nn e (fun v5 g e1 => ?_)
  subst g
  replace e := e1
  clear e1
  refine d_virtual_i (av := [.int v4]) (rest := [.int v3]) rfl ⟨by decide, by decide⟩ rfl rfl (by simp [xv_fit, va_rf_cat, cat_int, cat_long, cat_ref, cat_null, show xt_mx 178 = 2 from rfl, show xt_lg 178 = [] from rfl]) (by simp [xv_room, va_rf_cat, cat_int, cat_long, cat_ref, cat_null]) (fun x0 h1 e1 => t178 e1) e (fun v6 h e => ?_)
  refine d_icmp_eq rfl rfl e (fun _ e => ?_) (fun _ e => ?_)
  · exact t188_671 hk18 e
  · exact t188_379 hk18 e
def b188_356 (sc : Nat × (Nat → Int32)) (k18 : Option Nat → Option Nat → Int32 → xm Int32) (F : Nat) : xm Int32 := mb (bz (0 : Int32)) fun _ => mr (0 : Int32)
theorem t188_356 {sc : Nat × (Nat → Int32)} {F : Nat} {r : Int32} {h' : xv_H} {k18 : Option Nat → Option Nat → Int32 → xm Int32} (hk18 : ∀ (l1 : Option Nat) (l2 : Option Nat) (l3 : Int32) (h : xv_H), k18 l1 l2 l3 h = some (r, h') → xx sc 188 18 [some (va_rf (some xv_SB)), some (va_rf l1), some (va_rf l2), some (.int l3)] [] h (fun v g => v = some (.int r) ∧ g = h')) {d1 d2 d3 : Option Value} {h : xv_H} (e : b188_356 sc k18 F h = some (r, h')) : xx sc 188 356 [some (va_rf (some xv_SB)), d1, d2, d3] [] h (fun v g => v = some (.int r) ∧ g = h') := by
  unfold b188_356 at e
  refine xo_iconstV (x := 0) rfl (by decide) ?_
  exact d_zret rfl e
def b188_335 (sc : Nat × (Nat → Int32)) (k18 : Option Nat → Option Nat → Int32 → xm Int32) (F : Nat) (l1 : Option Nat) (l2 : Option Nat) (l3 : Int32) : xm Int32 := mb (ls sc (l3 + (1 : Int32))) fun v1 => mb (nn l1) fun v2 => mb (vc 0 v2) fun _ => mb (m98 F v2 v1) fun v3 => mb (ls sc (l3 + (1 : Int32))) fun v4 => mb (nn l2) fun v5 => mb (vc 9 v5) fun _ => mb (m128 F v5 v4) fun v6 => if v3 = v6 then b188_671 sc k18 F (some v2) (some v5) l3 else b188_356 sc k18 F
theorem t188_335 {sc : Nat × (Nat → Int32)} {F : Nat} {r : Int32} {h' : xv_H} {k18 : Option Nat → Option Nat → Int32 → xm Int32} (hk18 : ∀ (l1 : Option Nat) (l2 : Option Nat) (l3 : Int32) (h : xv_H), k18 l1 l2 l3 h = some (r, h') → xx sc 188 18 [some (va_rf (some xv_SB)), some (va_rf l1), some (va_rf l2), some (.int l3)] [] h (fun v g => v = some (.int r) ∧ g = h')) {l1 : Option Nat} {l2 : Option Nat} {l3 : Int32} {h : xv_H} (e : b188_335 sc k18 F l1 l2 l3 h = some (r, h')) : xx sc 188 335 [some (va_rf (some xv_SB)), some (va_rf l1), some (va_rf l2), some (.int l3)] [] h (fun v g => v = some (.int r) ∧ g = h') := by
  unfold b188_335 at e
  refine xo_aload_nQ (w := l1) rfl rfl ?_
  refine xo_aload_nQ (w := (some xv_SB)) rfl rfl ?_
  refine xo_iload_n rfl rfl ?_
  refine xo_iconstV (x := 1) rfl (by decide) ?_
  refine xo_iadd rfl ?_
  refine d_sald rfl e (fun v1 e => ?_)
  refine d_nn e (fun v2 g e1 => ?_)
  subst g
  replace e := e1
  clear e1
  refine d_virtual_i (av := [.int v1]) (rest := []) rfl ⟨by decide, by decide⟩ rfl rfl (by simp [xv_fit, va_rf_cat, cat_int, cat_long, cat_ref, cat_null, show xt_mx 98 = 2 from rfl, show xt_lg 98 = [] from rfl]) (by simp [xv_room, va_rf_cat, cat_int, cat_long, cat_ref, cat_null]) (fun x0 h1 e1 => t98 e1) e (fun v3 h e => ?_)
  refine xo_aload_nQ (w := l2) rfl rfl ?_
  refine xo_aload_nQ (w := (some xv_SB)) rfl rfl ?_
  refine xo_iload_n rfl rfl ?_
  refine xo_iconstV (x := 1) rfl (by decide) ?_
  refine xo_iadd rfl ?_
  refine d_sald rfl e (fun v4 e => ?_)
  refine d_nn e (fun v5 g e1 => ?_)
  subst g
  replace e := e1
  clear e1
  refine d_virtual_i (av := [.int v4]) (rest := [.int v3]) rfl ⟨by decide, by decide⟩ rfl rfl (by simp [xv_fit, va_rf_cat, cat_int, cat_long, cat_ref, cat_null, show xt_mx 128 = 4 from rfl, show xt_lg 128 = [] from rfl]) (by simp [xv_room, va_rf_cat, cat_int, cat_long, cat_ref, cat_null]) (fun x0 h1 e1 => t128 e1) e (fun v6 h e => ?_)
  refine d_icmp_eq rfl rfl e (fun _ e => ?_) (fun _ e => ?_)
  · exact t188_671 hk18 e
  · exact t188_356 hk18 e
def b188_333 (sc : Nat × (Nat → Int32)) (k18 : Option Nat → Option Nat → Int32 → xm Int32) (F : Nat) : xm Int32 := mb (bz (0 : Int32)) fun _ => mr (0 : Int32)
theorem t188_333 {sc : Nat × (Nat → Int32)} {F : Nat} {r : Int32} {h' : xv_H} {k18 : Option Nat → Option Nat → Int32 → xm Int32} (hk18 : ∀ (l1 : Option Nat) (l2 : Option Nat) (l3 : Int32) (h : xv_H), k18 l1 l2 l3 h = some (r, h') → xx sc 188 18 [some (va_rf (some xv_SB)), some (va_rf l1), some (va_rf l2), some (.int l3)] [] h (fun v g => v = some (.int r) ∧ g = h')) {d1 d2 d3 : Option Value} {h : xv_H} (e : b188_333 sc k18 F h = some (r, h')) : xx sc 188 333 [some (va_rf (some xv_SB)), d1, d2, d3] [] h (fun v g => v = some (.int r) ∧ g = h') := by
  unfold b188_333 at e
  refine xo_iconstV (x := 0) rfl (by decide) ?_
  exact d_zret rfl e
def b188_312 (sc : Nat × (Nat → Int32)) (k18 : Option Nat → Option Nat → Int32 → xm Int32) (F : Nat) (l1 : Option Nat) (l2 : Option Nat) (l3 : Int32) : xm Int32 := mb (ls sc (l3 + (1 : Int32))) fun v1 => mb (nn l1) fun v2 => mb (vc 0 v2) fun _ => mb (m74 F v2 v1) fun v3 => mb (ls sc (l3 + (1 : Int32))) fun v4 => mb (nn l2) fun v5 => mb (vc 9 v5) fun _ => mb (m129 F v5 v4) fun v6 => if v3 = v6 then b188_671 sc k18 F (some v2) (some v5) l3 else b188_333 sc k18 F
theorem t188_312 {sc : Nat × (Nat → Int32)} {F : Nat} {r : Int32} {h' : xv_H} {k18 : Option Nat → Option Nat → Int32 → xm Int32} (hk18 : ∀ (l1 : Option Nat) (l2 : Option Nat) (l3 : Int32) (h : xv_H), k18 l1 l2 l3 h = some (r, h') → xx sc 188 18 [some (va_rf (some xv_SB)), some (va_rf l1), some (va_rf l2), some (.int l3)] [] h (fun v g => v = some (.int r) ∧ g = h')) {l1 : Option Nat} {l2 : Option Nat} {l3 : Int32} {h : xv_H} (e : b188_312 sc k18 F l1 l2 l3 h = some (r, h')) : xx sc 188 312 [some (va_rf (some xv_SB)), some (va_rf l1), some (va_rf l2), some (.int l3)] [] h (fun v g => v = some (.int r) ∧ g = h') := by
  unfold b188_312 at e
  refine xo_aload_nQ (w := l1) rfl rfl ?_
  refine xo_aload_nQ (w := (some xv_SB)) rfl rfl ?_
  refine xo_iload_n rfl rfl ?_
  refine xo_iconstV (x := 1) rfl (by decide) ?_
  refine xo_iadd rfl ?_
  refine d_sald rfl e (fun v1 e => ?_)
  refine d_nn e (fun v2 g e1 => ?_)
  subst g
  replace e := e1
  clear e1
  refine d_virtual_i (av := [.int v1]) (rest := []) rfl ⟨by decide, by decide⟩ rfl rfl (by simp [xv_fit, va_rf_cat, cat_int, cat_long, cat_ref, cat_null, show xt_mx 74 = 3 from rfl, show xt_lg 74 = [] from rfl]) (by simp [xv_room, va_rf_cat, cat_int, cat_long, cat_ref, cat_null]) (fun x0 h1 e1 => t74 e1) e (fun v3 h e => ?_)
  refine xo_aload_nQ (w := l2) rfl rfl ?_
  refine xo_aload_nQ (w := (some xv_SB)) rfl rfl ?_
  refine xo_iload_n rfl rfl ?_
  refine xo_iconstV (x := 1) rfl (by decide) ?_
  refine xo_iadd rfl ?_
  refine d_sald rfl e (fun v4 e => ?_)
  refine d_nn e (fun v5 g e1 => ?_)
  subst g
  replace e := e1
  clear e1
  refine d_virtual_i (av := [.int v4]) (rest := [.int v3]) rfl ⟨by decide, by decide⟩ rfl rfl (by simp [xv_fit, va_rf_cat, cat_int, cat_long, cat_ref, cat_null, show xt_mx 129 = 12 from rfl, show xt_lg 129 = [6] from rfl]) (by simp [xv_room, va_rf_cat, cat_int, cat_long, cat_ref, cat_null]) (fun x0 h1 e1 => t129 e1) e (fun v6 h e => ?_)
  refine d_icmp_eq rfl rfl e (fun _ e => ?_) (fun _ e => ?_)
  · exact t188_671 hk18 e
  · exact t188_333 hk18 e
def b188_310 (sc : Nat × (Nat → Int32)) (k18 : Option Nat → Option Nat → Int32 → xm Int32) (F : Nat) : xm Int32 := mb (bz (0 : Int32)) fun _ => mr (0 : Int32)
theorem t188_310 {sc : Nat × (Nat → Int32)} {F : Nat} {r : Int32} {h' : xv_H} {k18 : Option Nat → Option Nat → Int32 → xm Int32} (hk18 : ∀ (l1 : Option Nat) (l2 : Option Nat) (l3 : Int32) (h : xv_H), k18 l1 l2 l3 h = some (r, h') → xx sc 188 18 [some (va_rf (some xv_SB)), some (va_rf l1), some (va_rf l2), some (.int l3)] [] h (fun v g => v = some (.int r) ∧ g = h')) {d1 d2 d3 : Option Value} {h : xv_H} (e : b188_310 sc k18 F h = some (r, h')) : xx sc 188 310 [some (va_rf (some xv_SB)), d1, d2, d3] [] h (fun v g => v = some (.int r) ∧ g = h') := by
  unfold b188_310 at e
  refine xo_iconstV (x := 0) rfl (by decide) ?_
  exact d_zret rfl e
def b188_289 (sc : Nat × (Nat → Int32)) (k18 : Option Nat → Option Nat → Int32 → xm Int32) (F : Nat) (l1 : Option Nat) (l2 : Option Nat) (l3 : Int32) : xm Int32 := mb (ls sc (l3 + (1 : Int32))) fun v1 => mb (nn l1) fun v2 => mb (vc 0 v2) fun _ => mb (m67 F v2 v1) fun v3 => mb (ls sc (l3 + (1 : Int32))) fun v4 => mb (nn l2) fun v5 => mb (vc 9 v5) fun _ => mb (m126 F v5 v4) fun v6 => if v3 = v6 then b188_671 sc k18 F (some v2) (some v5) l3 else b188_310 sc k18 F
theorem t188_289 {sc : Nat × (Nat → Int32)} {F : Nat} {r : Int32} {h' : xv_H} {k18 : Option Nat → Option Nat → Int32 → xm Int32} (hk18 : ∀ (l1 : Option Nat) (l2 : Option Nat) (l3 : Int32) (h : xv_H), k18 l1 l2 l3 h = some (r, h') → xx sc 188 18 [some (va_rf (some xv_SB)), some (va_rf l1), some (va_rf l2), some (.int l3)] [] h (fun v g => v = some (.int r) ∧ g = h')) {l1 : Option Nat} {l2 : Option Nat} {l3 : Int32} {h : xv_H} (e : b188_289 sc k18 F l1 l2 l3 h = some (r, h')) : xx sc 188 289 [some (va_rf (some xv_SB)), some (va_rf l1), some (va_rf l2), some (.int l3)] [] h (fun v g => v = some (.int r) ∧ g = h') := by
  unfold b188_289 at e
  refine xo_aload_nQ (w := l1) rfl rfl ?_
  refine xo_aload_nQ (w := (some xv_SB)) rfl rfl ?_
  refine xo_iload_n rfl rfl ?_
  refine xo_iconstV (x := 1) rfl (by decide) ?_
  refine xo_iadd rfl ?_
  refine d_sald rfl e (fun v1 e => ?_)
  refine d_nn e (fun v2 g e1 => ?_)
  subst g
  replace e := e1
  clear e1
  refine d_virtual_i (av := [.int v1]) (rest := []) rfl ⟨by decide, by decide⟩ rfl rfl (by simp [xv_fit, va_rf_cat, cat_int, cat_long, cat_ref, cat_null, show xt_mx 67 = 2 from rfl, show xt_lg 67 = [] from rfl]) (by simp [xv_room, va_rf_cat, cat_int, cat_long, cat_ref, cat_null]) (fun x0 h1 e1 => t67 e1) e (fun v3 h e => ?_)
  refine xo_aload_nQ (w := l2) rfl rfl ?_
  refine xo_aload_nQ (w := (some xv_SB)) rfl rfl ?_
  refine xo_iload_n rfl rfl ?_
  refine xo_iconstV (x := 1) rfl (by decide) ?_
  refine xo_iadd rfl ?_
  refine d_sald rfl e (fun v4 e => ?_)
  refine d_nn e (fun v5 g e1 => ?_)
  subst g
  replace e := e1
  clear e1
  refine d_virtual_i (av := [.int v4]) (rest := [.int v3]) rfl ⟨by decide, by decide⟩ rfl rfl (by simp [xv_fit, va_rf_cat, cat_int, cat_long, cat_ref, cat_null, show xt_mx 126 = 2 from rfl, show xt_lg 126 = [] from rfl]) (by simp [xv_room, va_rf_cat, cat_int, cat_long, cat_ref, cat_null]) (fun x0 h1 e1 => t126 e1) e (fun v6 h e => ?_)
  refine d_icmp_eq rfl rfl e (fun _ e => ?_) (fun _ e => ?_)
  · exact t188_671 hk18 e
  · exact t188_310 hk18 e
def b188_287 (sc : Nat × (Nat → Int32)) (k18 : Option Nat → Option Nat → Int32 → xm Int32) (F : Nat) : xm Int32 := mb (bz (0 : Int32)) fun _ => mr (0 : Int32)
theorem t188_287 {sc : Nat × (Nat → Int32)} {F : Nat} {r : Int32} {h' : xv_H} {k18 : Option Nat → Option Nat → Int32 → xm Int32} (hk18 : ∀ (l1 : Option Nat) (l2 : Option Nat) (l3 : Int32) (h : xv_H), k18 l1 l2 l3 h = some (r, h') → xx sc 188 18 [some (va_rf (some xv_SB)), some (va_rf l1), some (va_rf l2), some (.int l3)] [] h (fun v g => v = some (.int r) ∧ g = h')) {d1 d2 d3 : Option Value} {h : xv_H} (e : b188_287 sc k18 F h = some (r, h')) : xx sc 188 287 [some (va_rf (some xv_SB)), d1, d2, d3] [] h (fun v g => v = some (.int r) ∧ g = h') := by
  unfold b188_287 at e
  refine xo_iconstV (x := 0) rfl (by decide) ?_
  exact d_zret rfl e
def b188_276 (sc : Nat × (Nat → Int32)) (k18 : Option Nat → Option Nat → Int32 → xm Int32) (F : Nat) (l1 : Option Nat) (l2 : Option Nat) (l3 : Int32) : xm Int32 := mb (nn l1) fun v1 => mb (vc 0 v1) fun _ => mb (m66 F v1) fun v2 => mb (nn l2) fun v3 => mb (vc 9 v3) fun _ => mb (m125 F v3) fun v4 => if v2 = v4 then b188_671 sc k18 F (some v1) (some v3) l3 else b188_287 sc k18 F
theorem t188_276 {sc : Nat × (Nat → Int32)} {F : Nat} {r : Int32} {h' : xv_H} {k18 : Option Nat → Option Nat → Int32 → xm Int32} (hk18 : ∀ (l1 : Option Nat) (l2 : Option Nat) (l3 : Int32) (h : xv_H), k18 l1 l2 l3 h = some (r, h') → xx sc 188 18 [some (va_rf (some xv_SB)), some (va_rf l1), some (va_rf l2), some (.int l3)] [] h (fun v g => v = some (.int r) ∧ g = h')) {l1 : Option Nat} {l2 : Option Nat} {l3 : Int32} {h : xv_H} (e : b188_276 sc k18 F l1 l2 l3 h = some (r, h')) : xx sc 188 276 [some (va_rf (some xv_SB)), some (va_rf l1), some (va_rf l2), some (.int l3)] [] h (fun v g => v = some (.int r) ∧ g = h') := by
  unfold b188_276 at e
  refine xo_aload_nQ (w := l1) rfl rfl ?_
  refine d_nn e (fun v1 g e1 => ?_)
  subst g
  replace e := e1
  clear e1
  refine d_virtual_i (av := []) (rest := []) rfl ⟨by decide, by decide⟩ rfl rfl (by simp [xv_fit, va_rf_cat, cat_int, cat_long, cat_ref, cat_null, show xt_mx 66 = 1 from rfl, show xt_lg 66 = [] from rfl]) (by simp [xv_room, va_rf_cat, cat_int, cat_long, cat_ref, cat_null]) (fun x0 h1 e1 => t66 e1) e (fun v2 h e => ?_)
  refine xo_aload_nQ (w := l2) rfl rfl ?_
  refine d_nn e (fun v3 g e1 => ?_)
  subst g
  replace e := e1
  clear e1
  refine d_virtual_i (av := []) (rest := [.int v2]) rfl ⟨by decide, by decide⟩ rfl rfl (by simp [xv_fit, va_rf_cat, cat_int, cat_long, cat_ref, cat_null, show xt_mx 125 = 1 from rfl, show xt_lg 125 = [] from rfl]) (by simp [xv_room, va_rf_cat, cat_int, cat_long, cat_ref, cat_null]) (fun x0 h1 e1 => t125 e1) e (fun v4 h e => ?_)
  refine d_icmp_eq rfl rfl e (fun _ e => ?_) (fun _ e => ?_)
  · exact t188_671 hk18 e
  · exact t188_287 hk18 e
def b188_274 (sc : Nat × (Nat → Int32)) (k18 : Option Nat → Option Nat → Int32 → xm Int32) (F : Nat) : xm Int32 := mb (bz (0 : Int32)) fun _ => mr (0 : Int32)
theorem t188_274 {sc : Nat × (Nat → Int32)} {F : Nat} {r : Int32} {h' : xv_H} {k18 : Option Nat → Option Nat → Int32 → xm Int32} (hk18 : ∀ (l1 : Option Nat) (l2 : Option Nat) (l3 : Int32) (h : xv_H), k18 l1 l2 l3 h = some (r, h') → xx sc 188 18 [some (va_rf (some xv_SB)), some (va_rf l1), some (va_rf l2), some (.int l3)] [] h (fun v g => v = some (.int r) ∧ g = h')) {d1 d2 d3 : Option Value} {h : xv_H} (e : b188_274 sc k18 F h = some (r, h')) : xx sc 188 274 [some (va_rf (some xv_SB)), d1, d2, d3] [] h (fun v g => v = some (.int r) ∧ g = h') := by
  unfold b188_274 at e
  refine xo_iconstV (x := 0) rfl (by decide) ?_
  exact d_zret rfl e
def b188_233 (sc : Nat × (Nat → Int32)) (k18 : Option Nat → Option Nat → Int32 → xm Int32) (F : Nat) (l1 : Option Nat) (l2 : Option Nat) (l3 : Int32) : xm Int32 := mb (ls sc (l3 + (1 : Int32))) fun v1 => mb (ls sc (l3 + (2 : Int32))) fun v2 => mb (ls sc (l3 + (3 : Int32))) fun v3 => mb (nn l1) fun v4 => mb (vc 0 v4) fun _ => mb (m65 F v4 v1 v2 v3) fun v5 => mb (ls sc (l3 + (1 : Int32))) fun v6 => mb (ls sc (l3 + (2 : Int32))) fun v7 => mb (ls sc (l3 + (3 : Int32))) fun v8 => mb (nn l2) fun v9 => mb (vc 9 v9) fun _ => mb (m177 F v9 v6 v7 v8) fun v10 => if v5 = v10 then b188_671 sc k18 F (some v4) (some v9) l3 else b188_274 sc k18 F
theorem t188_233 {sc : Nat × (Nat → Int32)} {F : Nat} {r : Int32} {h' : xv_H} {k18 : Option Nat → Option Nat → Int32 → xm Int32} (hk18 : ∀ (l1 : Option Nat) (l2 : Option Nat) (l3 : Int32) (h : xv_H), k18 l1 l2 l3 h = some (r, h') → xx sc 188 18 [some (va_rf (some xv_SB)), some (va_rf l1), some (va_rf l2), some (.int l3)] [] h (fun v g => v = some (.int r) ∧ g = h')) {l1 : Option Nat} {l2 : Option Nat} {l3 : Int32} {h : xv_H} (e : b188_233 sc k18 F l1 l2 l3 h = some (r, h')) : xx sc 188 233 [some (va_rf (some xv_SB)), some (va_rf l1), some (va_rf l2), some (.int l3)] [] h (fun v g => v = some (.int r) ∧ g = h') := by
  unfold b188_233 at e
  refine xo_aload_nQ (w := l1) rfl rfl ?_
  refine xo_aload_nQ (w := (some xv_SB)) rfl rfl ?_
  refine xo_iload_n rfl rfl ?_
  refine xo_iconstV (x := 1) rfl (by decide) ?_
  refine xo_iadd rfl ?_
  refine d_sald rfl e (fun v1 e => ?_)
  refine xo_aload_nQ (w := (some xv_SB)) rfl rfl ?_
  refine xo_iload_n rfl rfl ?_
  refine xo_iconstV (x := 2) rfl (by decide) ?_
  refine xo_iadd rfl ?_
  refine d_sald rfl e (fun v2 e => ?_)
  refine xo_aload_nQ (w := (some xv_SB)) rfl rfl ?_
  refine xo_iload_n rfl rfl ?_
  refine xo_iconstV (x := 3) rfl (by decide) ?_
  refine xo_iadd rfl ?_
  refine d_sald rfl e (fun v3 e => ?_)
  refine d_nn e (fun v4 g e1 => ?_)
  subst g
  replace e := e1
  clear e1
  refine d_virtual_i (av := [.int v1, .int v2, .int v3]) (rest := []) rfl ⟨by decide, by decide⟩ rfl rfl (by simp [xv_fit, va_rf_cat, cat_int, cat_long, cat_ref, cat_null, show xt_mx 65 = 4 from rfl, show xt_lg 65 = [] from rfl]) (by simp [xv_room, va_rf_cat, cat_int, cat_long, cat_ref, cat_null]) (fun x0 h1 e1 => t65 e1) e (fun v5 h e => ?_)
  refine xo_aload_nQ (w := l2) rfl rfl ?_
  refine xo_aload_nQ (w := (some xv_SB)) rfl rfl ?_
  refine xo_iload_n rfl rfl ?_
  refine xo_iconstV (x := 1) rfl (by decide) ?_
  refine xo_iadd rfl ?_
  refine d_sald rfl e (fun v6 e => ?_)
  refine xo_aload_nQ (w := (some xv_SB)) rfl rfl ?_
  refine xo_iload_n rfl rfl ?_
  refine xo_iconstV (x := 2) rfl (by decide) ?_
  refine xo_iadd rfl ?_
  refine d_sald rfl e (fun v7 e => ?_)
  refine xo_aload_nQ (w := (some xv_SB)) rfl rfl ?_
  refine xo_iload_n rfl rfl ?_
  refine xo_iconstV (x := 3) rfl (by decide) ?_
  refine xo_iadd rfl ?_
  refine d_sald rfl e (fun v8 e => ?_)
  refine d_nn e (fun v9 g e1 => ?_)
  subst g
  replace e := e1
  clear e1
  refine d_virtual_i (av := [.int v6, .int v7, .int v8]) (rest := [.int v5]) rfl ⟨by decide, by decide⟩ rfl rfl (by simp [xv_fit, va_rf_cat, cat_int, cat_long, cat_ref, cat_null, show xt_mx 177 = 4 from rfl, show xt_lg 177 = [] from rfl]) (by simp [xv_room, va_rf_cat, cat_int, cat_long, cat_ref, cat_null]) (fun x0 h1 e1 => t177 e1) e (fun v10 h e => ?_)
  refine d_icmp_eq rfl rfl e (fun _ e => ?_) (fun _ e => ?_)
  · exact t188_671 hk18 e
  · exact t188_274 hk18 e
def b188_231 (sc : Nat × (Nat → Int32)) (k18 : Option Nat → Option Nat → Int32 → xm Int32) (F : Nat) : xm Int32 := mb (bz (0 : Int32)) fun _ => mr (0 : Int32)
theorem t188_231 {sc : Nat × (Nat → Int32)} {F : Nat} {r : Int32} {h' : xv_H} {k18 : Option Nat → Option Nat → Int32 → xm Int32} (hk18 : ∀ (l1 : Option Nat) (l2 : Option Nat) (l3 : Int32) (h : xv_H), k18 l1 l2 l3 h = some (r, h') → xx sc 188 18 [some (va_rf (some xv_SB)), some (va_rf l1), some (va_rf l2), some (.int l3)] [] h (fun v g => v = some (.int r) ∧ g = h')) {d1 d2 d3 : Option Value} {h : xv_H} (e : b188_231 sc k18 F h = some (r, h')) : xx sc 188 231 [some (va_rf (some xv_SB)), d1, d2, d3] [] h (fun v g => v = some (.int r) ∧ g = h') := by
  unfold b188_231 at e
  refine xo_iconstV (x := 0) rfl (by decide) ?_
  exact d_zret rfl e
def b188_200 (sc : Nat × (Nat → Int32)) (k18 : Option Nat → Option Nat → Int32 → xm Int32) (F : Nat) (l1 : Option Nat) (l2 : Option Nat) (l3 : Int32) : xm Int32 := mb (ls sc (l3 + (1 : Int32))) fun v1 => mb (ls sc (l3 + (2 : Int32))) fun v2 => mb (nn l1) fun v3 => mb (vc 0 v3) fun _ => mb (m64 F v3 v1 v2) fun v4 => mb (ls sc (l3 + (1 : Int32))) fun v5 => mb (ls sc (l3 + (2 : Int32))) fun v6 => mb (nn l2) fun v7 => mb (vc 9 v7) fun _ => mb (m176 F v7 v5 v6) fun v8 => if v4 = v8 then b188_671 sc k18 F (some v3) (some v7) l3 else b188_231 sc k18 F
theorem t188_200 {sc : Nat × (Nat → Int32)} {F : Nat} {r : Int32} {h' : xv_H} {k18 : Option Nat → Option Nat → Int32 → xm Int32} (hk18 : ∀ (l1 : Option Nat) (l2 : Option Nat) (l3 : Int32) (h : xv_H), k18 l1 l2 l3 h = some (r, h') → xx sc 188 18 [some (va_rf (some xv_SB)), some (va_rf l1), some (va_rf l2), some (.int l3)] [] h (fun v g => v = some (.int r) ∧ g = h')) {l1 : Option Nat} {l2 : Option Nat} {l3 : Int32} {h : xv_H} (e : b188_200 sc k18 F l1 l2 l3 h = some (r, h')) : xx sc 188 200 [some (va_rf (some xv_SB)), some (va_rf l1), some (va_rf l2), some (.int l3)] [] h (fun v g => v = some (.int r) ∧ g = h') := by
  unfold b188_200 at e
  refine xo_aload_nQ (w := l1) rfl rfl ?_
  refine xo_aload_nQ (w := (some xv_SB)) rfl rfl ?_
  refine xo_iload_n rfl rfl ?_
  refine xo_iconstV (x := 1) rfl (by decide) ?_
  refine xo_iadd rfl ?_
  refine d_sald rfl e (fun v1 e => ?_)
  refine xo_aload_nQ (w := (some xv_SB)) rfl rfl ?_
  refine xo_iload_n rfl rfl ?_
  refine xo_iconstV (x := 2) rfl (by decide) ?_
  refine xo_iadd rfl ?_
  refine d_sald rfl e (fun v2 e => ?_)
  refine d_nn e (fun v3 g e1 => ?_)
  subst g
  replace e := e1
  clear e1
  refine d_virtual_i (av := [.int v1, .int v2]) (rest := []) rfl ⟨by decide, by decide⟩ rfl rfl (by simp [xv_fit, va_rf_cat, cat_int, cat_long, cat_ref, cat_null, show xt_mx 64 = 3 from rfl, show xt_lg 64 = [] from rfl]) (by simp [xv_room, va_rf_cat, cat_int, cat_long, cat_ref, cat_null]) (fun x0 h1 e1 => t64 e1) e (fun v4 h e => ?_)
  refine xo_aload_nQ (w := l2) rfl rfl ?_
  refine xo_aload_nQ (w := (some xv_SB)) rfl rfl ?_
  refine xo_iload_n rfl rfl ?_
  refine xo_iconstV (x := 1) rfl (by decide) ?_
  refine xo_iadd rfl ?_
  refine d_sald rfl e (fun v5 e => ?_)
  refine xo_aload_nQ (w := (some xv_SB)) rfl rfl ?_
  refine xo_iload_n rfl rfl ?_
  refine xo_iconstV (x := 2) rfl (by decide) ?_
  refine xo_iadd rfl ?_
  refine d_sald rfl e (fun v6 e => ?_)
  refine d_nn e (fun v7 g e1 => ?_)
  subst g
  replace e := e1
  clear e1
  refine d_virtual_i (av := [.int v5, .int v6]) (rest := [.int v4]) rfl ⟨by decide, by decide⟩ rfl rfl (by simp [xv_fit, va_rf_cat, cat_int, cat_long, cat_ref, cat_null, show xt_mx 176 = 3 from rfl, show xt_lg 176 = [] from rfl]) (by simp [xv_room, va_rf_cat, cat_int, cat_long, cat_ref, cat_null]) (fun x0 h1 e1 => t176 e1) e (fun v8 h e => ?_)
  refine d_icmp_eq rfl rfl e (fun _ e => ?_) (fun _ e => ?_)
  · exact t188_671 hk18 e
  · exact t188_231 hk18 e
def b188_198 (sc : Nat × (Nat → Int32)) (k18 : Option Nat → Option Nat → Int32 → xm Int32) (F : Nat) : xm Int32 := mb (bz (0 : Int32)) fun _ => mr (0 : Int32)
theorem t188_198 {sc : Nat × (Nat → Int32)} {F : Nat} {r : Int32} {h' : xv_H} {k18 : Option Nat → Option Nat → Int32 → xm Int32} (hk18 : ∀ (l1 : Option Nat) (l2 : Option Nat) (l3 : Int32) (h : xv_H), k18 l1 l2 l3 h = some (r, h') → xx sc 188 18 [some (va_rf (some xv_SB)), some (va_rf l1), some (va_rf l2), some (.int l3)] [] h (fun v g => v = some (.int r) ∧ g = h')) {d1 d2 d3 : Option Value} {h : xv_H} (e : b188_198 sc k18 F h = some (r, h')) : xx sc 188 198 [some (va_rf (some xv_SB)), d1, d2, d3] [] h (fun v g => v = some (.int r) ∧ g = h') := by
  unfold b188_198 at e
  refine xo_iconstV (x := 0) rfl (by decide) ?_
  exact d_zret rfl e
def b188_157 (sc : Nat × (Nat → Int32)) (k18 : Option Nat → Option Nat → Int32 → xm Int32) (F : Nat) (l1 : Option Nat) (l2 : Option Nat) (l3 : Int32) : xm Int32 := mb (ls sc (l3 + (1 : Int32))) fun v1 => mb (ls sc (l3 + (2 : Int32))) fun v2 => mb (ls sc (l3 + (3 : Int32))) fun v3 => mb (nn l1) fun v4 => mb (vc 0 v4) fun _ => mb (m63 F v4 v1 v2 v3) fun v5 => mb (ls sc (l3 + (1 : Int32))) fun v6 => mb (ls sc (l3 + (2 : Int32))) fun v7 => mb (ls sc (l3 + (3 : Int32))) fun v8 => mb (nn l2) fun v9 => mb (vc 9 v9) fun _ => mb (m175 F v9 v6 v7 v8) fun v10 => if v5 = v10 then b188_671 sc k18 F (some v4) (some v9) l3 else b188_198 sc k18 F
theorem t188_157 {sc : Nat × (Nat → Int32)} {F : Nat} {r : Int32} {h' : xv_H} {k18 : Option Nat → Option Nat → Int32 → xm Int32} (hk18 : ∀ (l1 : Option Nat) (l2 : Option Nat) (l3 : Int32) (h : xv_H), k18 l1 l2 l3 h = some (r, h') → xx sc 188 18 [some (va_rf (some xv_SB)), some (va_rf l1), some (va_rf l2), some (.int l3)] [] h (fun v g => v = some (.int r) ∧ g = h')) {l1 : Option Nat} {l2 : Option Nat} {l3 : Int32} {h : xv_H} (e : b188_157 sc k18 F l1 l2 l3 h = some (r, h')) : xx sc 188 157 [some (va_rf (some xv_SB)), some (va_rf l1), some (va_rf l2), some (.int l3)] [] h (fun v g => v = some (.int r) ∧ g = h') := by
  unfold b188_157 at e
  refine xo_aload_nQ (w := l1) rfl rfl ?_
  refine xo_aload_nQ (w := (some xv_SB)) rfl rfl ?_
  refine xo_iload_n rfl rfl ?_
  refine xo_iconstV (x := 1) rfl (by decide) ?_
  refine xo_iadd rfl ?_
  refine d_sald rfl e (fun v1 e => ?_)
  refine xo_aload_nQ (w := (some xv_SB)) rfl rfl ?_
  refine xo_iload_n rfl rfl ?_
  refine xo_iconstV (x := 2) rfl (by decide) ?_
  refine xo_iadd rfl ?_
  refine d_sald rfl e (fun v2 e => ?_)
  refine xo_aload_nQ (w := (some xv_SB)) rfl rfl ?_
  refine xo_iload_n rfl rfl ?_
  refine xo_iconstV (x := 3) rfl (by decide) ?_
  refine xo_iadd rfl ?_
  refine d_sald rfl e (fun v3 e => ?_)
  refine d_nn e (fun v4 g e1 => ?_)
  subst g
  replace e := e1
  clear e1
  refine d_virtual_i (av := [.int v1, .int v2, .int v3]) (rest := []) rfl ⟨by decide, by decide⟩ rfl rfl (by simp [xv_fit, va_rf_cat, cat_int, cat_long, cat_ref, cat_null, show xt_mx 63 = 4 from rfl, show xt_lg 63 = [] from rfl]) (by simp [xv_room, va_rf_cat, cat_int, cat_long, cat_ref, cat_null]) (fun x0 h1 e1 => t63 e1) e (fun v5 h e => ?_)
  refine xo_aload_nQ (w := l2) rfl rfl ?_
  refine xo_aload_nQ (w := (some xv_SB)) rfl rfl ?_
  refine xo_iload_n rfl rfl ?_
  refine xo_iconstV (x := 1) rfl (by decide) ?_
  refine xo_iadd rfl ?_
  refine d_sald rfl e (fun v6 e => ?_)
  refine xo_aload_nQ (w := (some xv_SB)) rfl rfl ?_
  refine xo_iload_n rfl rfl ?_
  refine xo_iconstV (x := 2) rfl (by decide) ?_
  refine xo_iadd rfl ?_
  refine d_sald rfl e (fun v7 e => ?_)
  refine xo_aload_nQ (w := (some xv_SB)) rfl rfl ?_
  refine xo_iload_n rfl rfl ?_
  refine xo_iconstV (x := 3) rfl (by decide) ?_
  refine xo_iadd rfl ?_
  refine d_sald rfl e (fun v8 e => ?_)
  refine d_nn e (fun v9 g e1 => ?_)
  subst g
  replace e := e1
  clear e1
  refine d_virtual_i (av := [.int v6, .int v7, .int v8]) (rest := [.int v5]) rfl ⟨by decide, by decide⟩ rfl rfl (by simp [xv_fit, va_rf_cat, cat_int, cat_long, cat_ref, cat_null, show xt_mx 175 = 4 from rfl, show xt_lg 175 = [] from rfl]) (by simp [xv_room, va_rf_cat, cat_int, cat_long, cat_ref, cat_null]) (fun x0 h1 e1 => t175 e1) e (fun v10 h e => ?_)
  refine d_icmp_eq rfl rfl e (fun _ e => ?_) (fun _ e => ?_)
  · exact t188_671 hk18 e
  · exact t188_198 hk18 e
def b188_155 (sc : Nat × (Nat → Int32)) (k18 : Option Nat → Option Nat → Int32 → xm Int32) (F : Nat) : xm Int32 := mb (bz (0 : Int32)) fun _ => mr (0 : Int32)
theorem t188_155 {sc : Nat × (Nat → Int32)} {F : Nat} {r : Int32} {h' : xv_H} {k18 : Option Nat → Option Nat → Int32 → xm Int32} (hk18 : ∀ (l1 : Option Nat) (l2 : Option Nat) (l3 : Int32) (h : xv_H), k18 l1 l2 l3 h = some (r, h') → xx sc 188 18 [some (va_rf (some xv_SB)), some (va_rf l1), some (va_rf l2), some (.int l3)] [] h (fun v g => v = some (.int r) ∧ g = h')) {d1 d2 d3 : Option Value} {h : xv_H} (e : b188_155 sc k18 F h = some (r, h')) : xx sc 188 155 [some (va_rf (some xv_SB)), d1, d2, d3] [] h (fun v g => v = some (.int r) ∧ g = h') := by
  unfold b188_155 at e
  refine xo_iconstV (x := 0) rfl (by decide) ?_
  exact d_zret rfl e
def b188_124 (sc : Nat × (Nat → Int32)) (k18 : Option Nat → Option Nat → Int32 → xm Int32) (F : Nat) (l1 : Option Nat) (l2 : Option Nat) (l3 : Int32) : xm Int32 := mb (ls sc (l3 + (1 : Int32))) fun v1 => mb (ls sc (l3 + (2 : Int32))) fun v2 => mb (nn l1) fun v3 => mb (vc 0 v3) fun _ => mb (m9 F v3 v1 v2) fun v4 => mb (ls sc (l3 + (1 : Int32))) fun v5 => mb (ls sc (l3 + (2 : Int32))) fun v6 => mb (nn l2) fun v7 => mb (vc 9 v7) fun _ => mb (m172 F v7 v5 v6) fun v8 => if v4 = v8 then b188_671 sc k18 F (some v3) (some v7) l3 else b188_155 sc k18 F
theorem t188_124 {sc : Nat × (Nat → Int32)} {F : Nat} {r : Int32} {h' : xv_H} {k18 : Option Nat → Option Nat → Int32 → xm Int32} (hk18 : ∀ (l1 : Option Nat) (l2 : Option Nat) (l3 : Int32) (h : xv_H), k18 l1 l2 l3 h = some (r, h') → xx sc 188 18 [some (va_rf (some xv_SB)), some (va_rf l1), some (va_rf l2), some (.int l3)] [] h (fun v g => v = some (.int r) ∧ g = h')) {l1 : Option Nat} {l2 : Option Nat} {l3 : Int32} {h : xv_H} (e : b188_124 sc k18 F l1 l2 l3 h = some (r, h')) : xx sc 188 124 [some (va_rf (some xv_SB)), some (va_rf l1), some (va_rf l2), some (.int l3)] [] h (fun v g => v = some (.int r) ∧ g = h') := by
  unfold b188_124 at e
  refine xo_aload_nQ (w := l1) rfl rfl ?_
  refine xo_aload_nQ (w := (some xv_SB)) rfl rfl ?_
  refine xo_iload_n rfl rfl ?_
  refine xo_iconstV (x := 1) rfl (by decide) ?_
  refine xo_iadd rfl ?_
  refine d_sald rfl e (fun v1 e => ?_)
  refine xo_aload_nQ (w := (some xv_SB)) rfl rfl ?_
  refine xo_iload_n rfl rfl ?_
  refine xo_iconstV (x := 2) rfl (by decide) ?_
  refine xo_iadd rfl ?_
  refine d_sald rfl e (fun v2 e => ?_)
  refine d_nn e (fun v3 g e1 => ?_)
  subst g
  replace e := e1
  clear e1
  refine d_virtual_i (av := [.int v1, .int v2]) (rest := []) rfl ⟨by decide, by decide⟩ rfl rfl (by simp [xv_fit, va_rf_cat, cat_int, cat_long, cat_ref, cat_null, show xt_mx 9 = 3 from rfl, show xt_lg 9 = [] from rfl]) (by simp [xv_room, va_rf_cat, cat_int, cat_long, cat_ref, cat_null]) (fun x0 h1 e1 => t9 e1) e (fun v4 h e => ?_)
  refine xo_aload_nQ (w := l2) rfl rfl ?_
  refine xo_aload_nQ (w := (some xv_SB)) rfl rfl ?_
  refine xo_iload_n rfl rfl ?_
  refine xo_iconstV (x := 1) rfl (by decide) ?_
  refine xo_iadd rfl ?_
  refine d_sald rfl e (fun v5 e => ?_)
  refine xo_aload_nQ (w := (some xv_SB)) rfl rfl ?_
  refine xo_iload_n rfl rfl ?_
  refine xo_iconstV (x := 2) rfl (by decide) ?_
  refine xo_iadd rfl ?_
  refine d_sald rfl e (fun v6 e => ?_)
  refine d_nn e (fun v7 g e1 => ?_)
  subst g
  replace e := e1
  clear e1
  refine d_virtual_i (av := [.int v5, .int v6]) (rest := [.int v4]) rfl ⟨by decide, by decide⟩ rfl rfl (by simp [xv_fit, va_rf_cat, cat_int, cat_long, cat_ref, cat_null, show xt_mx 172 = 3 from rfl, show xt_lg 172 = [] from rfl]) (by simp [xv_room, va_rf_cat, cat_int, cat_long, cat_ref, cat_null]) (fun x0 h1 e1 => t172 e1) e (fun v8 h e => ?_)
  refine d_icmp_eq rfl rfl e (fun _ e => ?_) (fun _ e => ?_)
  · exact t188_671 hk18 e
  · exact t188_155 hk18 e
def b188_26 (sc : Nat × (Nat → Int32)) (k18 : Option Nat → Option Nat → Int32 → xm Int32) (F : Nat) (l1 : Option Nat) (l2 : Option Nat) (l3 : Int32) : xm Int32 := mb (ls sc l3) fun v1 => if (v1 &&& (31 : Int32)) = (0 : Int32) then b188_124 sc k18 F l1 l2 l3 else if (v1 &&& (31 : Int32)) = (1 : Int32) then b188_157 sc k18 F l1 l2 l3 else if (v1 &&& (31 : Int32)) = (2 : Int32) then b188_200 sc k18 F l1 l2 l3 else if (v1 &&& (31 : Int32)) = (3 : Int32) then b188_233 sc k18 F l1 l2 l3 else if (v1 &&& (31 : Int32)) = (4 : Int32) then b188_276 sc k18 F l1 l2 l3 else if (v1 &&& (31 : Int32)) = (5 : Int32) then b188_289 sc k18 F l1 l2 l3 else if (v1 &&& (31 : Int32)) = (6 : Int32) then b188_312 sc k18 F l1 l2 l3 else if (v1 &&& (31 : Int32)) = (7 : Int32) then b188_335 sc k18 F l1 l2 l3 else if (v1 &&& (31 : Int32)) = (8 : Int32) then b188_358 sc k18 F l1 l2 l3 else if (v1 &&& (31 : Int32)) = (9 : Int32) then b188_381 sc k18 F l1 l2 l3 else if (v1 &&& (31 : Int32)) = (10 : Int32) then b188_404 sc k18 F l1 l2 l3 else if (v1 &&& (31 : Int32)) = (11 : Int32) then b188_427 sc k18 F l1 l2 l3 else if (v1 &&& (31 : Int32)) = (12 : Int32) then b188_450 sc k18 F l1 l2 l3 else if (v1 &&& (31 : Int32)) = (13 : Int32) then b188_473 sc k18 F l1 l2 l3 else if (v1 &&& (31 : Int32)) = (14 : Int32) then b188_506 sc k18 F l1 l2 l3 else if (v1 &&& (31 : Int32)) = (15 : Int32) then b188_539 sc k18 F l1 l2 l3 else if (v1 &&& (31 : Int32)) = (16 : Int32) then b188_572 sc k18 F l1 l2 l3 else if (v1 &&& (31 : Int32)) = (17 : Int32) then b188_605 sc k18 F l1 l2 l3 else if (v1 &&& (31 : Int32)) = (18 : Int32) then b188_638 sc k18 F l1 l2 l3 else b188_671 sc k18 F l1 l2 l3
theorem t188_26 {sc : Nat × (Nat → Int32)} {F : Nat} {r : Int32} {h' : xv_H} {k18 : Option Nat → Option Nat → Int32 → xm Int32} (hk18 : ∀ (l1 : Option Nat) (l2 : Option Nat) (l3 : Int32) (h : xv_H), k18 l1 l2 l3 h = some (r, h') → xx sc 188 18 [some (va_rf (some xv_SB)), some (va_rf l1), some (va_rf l2), some (.int l3)] [] h (fun v g => v = some (.int r) ∧ g = h')) {l1 : Option Nat} {l2 : Option Nat} {l3 : Int32} {h : xv_H} (e : b188_26 sc k18 F l1 l2 l3 h = some (r, h')) : xx sc 188 26 [some (va_rf (some xv_SB)), some (va_rf l1), some (va_rf l2), some (.int l3)] [] h (fun v g => v = some (.int r) ∧ g = h') := by
  unfold b188_26 at e
  refine xo_aload_nQ (w := (some xv_SB)) rfl rfl ?_
  refine xo_iload_n rfl rfl ?_
  refine d_sald rfl e (fun v1 e => ?_)
  refine xo_bipushV (x := 31) rfl (by decide) ?_
  refine xo_iand rfl ?_
  by_cases g0 : (v1 &&& (31 : Int32)) = (0 : Int32)
  · rw [if_pos g0] at e
    refine xo_tabIn rfl (by rw [g0]; decide) (by rw [g0]; rfl) rfl ?_
    exact t188_124 hk18 e
  rw [if_neg g0] at e
  by_cases g1 : (v1 &&& (31 : Int32)) = (1 : Int32)
  · rw [if_pos g1] at e
    refine xo_tabIn rfl (by rw [g1]; decide) (by rw [g1]; rfl) rfl ?_
    exact t188_157 hk18 e
  rw [if_neg g1] at e
  by_cases g2 : (v1 &&& (31 : Int32)) = (2 : Int32)
  · rw [if_pos g2] at e
    refine xo_tabIn rfl (by rw [g2]; decide) (by rw [g2]; rfl) rfl ?_
    exact t188_200 hk18 e
  rw [if_neg g2] at e
  by_cases g3 : (v1 &&& (31 : Int32)) = (3 : Int32)
  · rw [if_pos g3] at e
    refine xo_tabIn rfl (by rw [g3]; decide) (by rw [g3]; rfl) rfl ?_
    exact t188_233 hk18 e
  rw [if_neg g3] at e
  by_cases g4 : (v1 &&& (31 : Int32)) = (4 : Int32)
  · rw [if_pos g4] at e
    refine xo_tabIn rfl (by rw [g4]; decide) (by rw [g4]; rfl) rfl ?_
    exact t188_276 hk18 e
  rw [if_neg g4] at e
  by_cases g5 : (v1 &&& (31 : Int32)) = (5 : Int32)
  · rw [if_pos g5] at e
    refine xo_tabIn rfl (by rw [g5]; decide) (by rw [g5]; rfl) rfl ?_
    exact t188_289 hk18 e
  rw [if_neg g5] at e
  by_cases g6 : (v1 &&& (31 : Int32)) = (6 : Int32)
  · rw [if_pos g6] at e
    refine xo_tabIn rfl (by rw [g6]; decide) (by rw [g6]; rfl) rfl ?_
    exact t188_312 hk18 e
  rw [if_neg g6] at e
  by_cases g7 : (v1 &&& (31 : Int32)) = (7 : Int32)
  · rw [if_pos g7] at e
    refine xo_tabIn rfl (by rw [g7]; decide) (by rw [g7]; rfl) rfl ?_
    exact t188_335 hk18 e
  rw [if_neg g7] at e
  by_cases g8 : (v1 &&& (31 : Int32)) = (8 : Int32)
  · rw [if_pos g8] at e
    refine xo_tabIn rfl (by rw [g8]; decide) (by rw [g8]; rfl) rfl ?_
    exact t188_358 hk18 e
  rw [if_neg g8] at e
  by_cases g9 : (v1 &&& (31 : Int32)) = (9 : Int32)
  · rw [if_pos g9] at e
    refine xo_tabIn rfl (by rw [g9]; decide) (by rw [g9]; rfl) rfl ?_
    exact t188_381 hk18 e
  rw [if_neg g9] at e
  by_cases g10 : (v1 &&& (31 : Int32)) = (10 : Int32)
  · rw [if_pos g10] at e
    refine xo_tabIn rfl (by rw [g10]; decide) (by rw [g10]; rfl) rfl ?_
    exact t188_404 hk18 e
  rw [if_neg g10] at e
  by_cases g11 : (v1 &&& (31 : Int32)) = (11 : Int32)
  · rw [if_pos g11] at e
    refine xo_tabIn rfl (by rw [g11]; decide) (by rw [g11]; rfl) rfl ?_
    exact t188_427 hk18 e
  rw [if_neg g11] at e
  by_cases g12 : (v1 &&& (31 : Int32)) = (12 : Int32)
  · rw [if_pos g12] at e
    refine xo_tabIn rfl (by rw [g12]; decide) (by rw [g12]; rfl) rfl ?_
    exact t188_450 hk18 e
  rw [if_neg g12] at e
  by_cases g13 : (v1 &&& (31 : Int32)) = (13 : Int32)
  · rw [if_pos g13] at e
    refine xo_tabIn rfl (by rw [g13]; decide) (by rw [g13]; rfl) rfl ?_
    exact t188_473 hk18 e
  rw [if_neg g13] at e
  by_cases g14 : (v1 &&& (31 : Int32)) = (14 : Int32)
  · rw [if_pos g14] at e
    refine xo_tabIn rfl (by rw [g14]; decide) (by rw [g14]; rfl) rfl ?_
    exact t188_506 hk18 e
  rw [if_neg g14] at e
  by_cases g15 : (v1 &&& (31 : Int32)) = (15 : Int32)
  · rw [if_pos g15] at e
    refine xo_tabIn rfl (by rw [g15]; decide) (by rw [g15]; rfl) rfl ?_
    exact t188_539 hk18 e
  rw [if_neg g15] at e
  by_cases g16 : (v1 &&& (31 : Int32)) = (16 : Int32)
  · rw [if_pos g16] at e
    refine xo_tabIn rfl (by rw [g16]; decide) (by rw [g16]; rfl) rfl ?_
    exact t188_572 hk18 e
  rw [if_neg g16] at e
  by_cases g17 : (v1 &&& (31 : Int32)) = (17 : Int32)
  · rw [if_pos g17] at e
    refine xo_tabIn rfl (by rw [g17]; decide) (by rw [g17]; rfl) rfl ?_
    exact t188_605 hk18 e
  rw [if_neg g17] at e
  by_cases g18 : (v1 &&& (31 : Int32)) = (18 : Int32)
  · rw [if_pos g18] at e
    refine xo_tabIn rfl (by rw [g18]; decide) (by rw [g18]; rfl) rfl ?_
    exact t188_638 hk18 e
  rw [if_neg g18] at e
  refine xo_tabOut rfl (sw_out 18 (by decide) (fun k hk => by rcases k with _ | _ | _ | _ | _ | _ | _ | _ | _ | _ | _ | _ | _ | _ | _ | _ | _ | _ | _ | k <;> first | assumption | omega)) rfl ?_
  exact t188_671 hk18 e
def b188_18 (sc : Nat × (Nat → Int32)) (F : Nat) : Nat → Option Nat → Option Nat → Int32 → xm Int32
  | 0, _, _, _ => fun _ => none
  | f + 1, l1, l2, l3 => if ((Int32.ofNat sc.1) - (4 : Int32)) < l3 then b188_677 sc F else b188_26 sc (b188_18 sc F f) F l1 l2 l3
theorem t188_18 {sc : Nat × (Nat → Int32)} {F : Nat} {r : Int32} {h' : xv_H} : ∀ (f : Nat) (l1 : Option Nat) (l2 : Option Nat) (l3 : Int32) (h : xv_H), b188_18 sc F f l1 l2 l3 h = some (r, h') → xx sc 188 18 [some (va_rf (some xv_SB)), some (va_rf l1), some (va_rf l2), some (.int l3)] [] h (fun v g => v = some (.int r) ∧ g = h') := by
  intro f
  induction f with
  | zero => intro l1 l2 l3 h e; cases e
  | succ f ih =>
    intro l1 l2 l3 h e
    unfold b188_18 at e
    refine xo_iload_n rfl rfl ?_
    refine xo_aload_nQ (w := (some xv_SB)) rfl rfl ?_
    refine xo_slen rfl ?_
    refine xo_iconstV (x := 4) rfl (by decide) ?_
    refine xo_isub rfl ?_
    refine d_icmp_gt rfl rfl e (fun _ e => ?_) (fun _ e => ?_)
    · exact t188_677 e
    · exact t188_26 (fun a0 a1 a2 h e => ih a0 a1 a2 h e) e
def b188_0 (sc : Nat × (Nat → Int32)) (F : Nat) : xm Int32 := mb (nw 0 5) fun v1 => mb (m0 F v1) fun _ => mb (nw 9 42) fun v2 => mb (m123 F v2) fun _ => b188_18 sc F F (some v1) (some v2) (0 : Int32)
theorem t188_0 {sc : Nat × (Nat → Int32)} {F : Nat} {r : Int32} {h' : xv_H} {d1 d2 d3 : Option Value} {h : xv_H} (e : b188_0 sc F h = some (r, h')) : xx sc 188 0 [some (va_rf (some xv_SB)), d1, d2, d3] [] h (fun v g => v = some (.int r) ∧ g = h') := by
  unfold b188_0 at e
  refine d_new rfl e (fun v1 h e => ?_)
  refine xo_dup rfl (by first | rfl | exact va_rf_cat _) ?_
  refine d_special_v (av := []) (rest := [va_rf (some v1)]) rfl (by decide) rfl rfl (by simp [xv_fit, va_rf_cat, cat_int, cat_long, cat_ref, cat_null, show xt_mx 0 = 4 from rfl, show xt_lg 0 = [] from rfl]) (by simp [xv_room, va_rf_cat, cat_int, cat_long, cat_ref, cat_null]) (fun x0 h1 e1 => t0 e1) e (fun _ h e => ?_)
  refine xo_astore_nQ (w := (some v1)) rfl (Nat.le_of_ble_eq_true rfl) rfl ?_
  refine d_new rfl e (fun v2 h e => ?_)
  refine xo_dup rfl (by first | rfl | exact va_rf_cat _) ?_
  refine d_special_v (av := []) (rest := [va_rf (some v2)]) rfl (by decide) rfl rfl (by simp [xv_fit, va_rf_cat, cat_int, cat_long, cat_ref, cat_null, show xt_mx 123 = 1 from rfl, show xt_lg 123 = [] from rfl]) (by simp [xv_room, va_rf_cat, cat_int, cat_long, cat_ref, cat_null]) (fun x0 h1 e1 => t123 e1) e (fun _ h e => ?_)
  refine xo_astore_nQ (w := (some v2)) rfl (Nat.le_of_ble_eq_true rfl) rfl ?_
  refine xo_iconstV (x := 0) rfl (by decide) ?_
  refine xo_istore_n rfl (Nat.le_of_ble_eq_true rfl) rfl ?_
  exact t188_18 F _ _ _ _ e
def m188 (sc : Nat × (Nat → Int32)) (F : Nat) : xm Int32 := b188_0 sc F
theorem t188 {sc : Nat × (Nat → Int32)} {F : Nat} {h h' : xv_H} {r : Int32} (e : m188 sc F h = some (r, h')) : xx sc 188 0 (xv_ent 4 [.ref xv_SB]) [] h (fun v g => v = some (.int r) ∧ g = h') := by
  have e0 : xv_ent 4 [.ref xv_SB] = [some (va_rf (some xv_SB)), none, none, none] := by simp [xv_ent, xv_sl, cat_ref, va_rf_some]
  rw [e0]
  exact t188_0 e
