/-! A client's methods: splits. -/
theorem znext_lt {a : Nat} (h : a < 24) : znext a < 24 := by unfold znext; split <;> omega
theorem c_hi_hi2 (z : zC) (a b : Nat) : c_hi_ (c_hi_ z a) b = c_hi_ z b := (rfl)
section CL5
variable {h h0 h1 h2 : xv_H} {B c F f x K K2 x0 n : Nat} {z : zC} {e s a d w : Option Nat} {T : Option Nat × Option Nat × Option Nat × Option Nat} {y : Int32} {v u : Int32 × zN} {its : List zI} {i : zI} {an : Nat → Bool} {t : Nat}
/-- new cells beside a draft -/
theorem al_tx (E : ext K (XfC B) (XaC B) h0 h) (o : cs h B c z T) (ot : okTx h x c t its) (oa : okAn h x an) (e2 : ext K2 Xf0 Xa0 h h1) : ext (K + K2) (XfC B) (XaC B) h0 h1 ∧ cs h1 B c z T ∧ okTx h1 x c t its ∧ okAn h1 x an :=
  ⟨ext_trans E (ext_any e2), cs_c0 e2 o, okTx_c e2 calm0 (fun _ _ _ q => q) (fun q => q) (fun q => q) ot, okAn_c e2 ot.1.2.2.2.1.1 (fun q => q) oa⟩
theorem cell_d (o : okCell h x0 v) : ∃ nb, gr 701 x0 h = some (some nb, h) ∧ gi 700 x0 h = some (v.1, h) ∧ okN h nb v.2 ∧ vc 6 nb h = some ((), h) := by
  obtain ⟨o1, o2, nb, o3, o4⟩ := o
  exact ⟨nb, by rw [ok_gr o1, o3], by rw [ok_gi o1, o2], o4, ok_vc o4.1⟩
theorem k4 : (some (xv_SB + 10) : Option Nat) = some (xv_SB + 6 + (4 : Int32).toNatClampNeg) := by decide
theorem k3 : (some (xv_SB + 9) : Option Nat) = some (xv_SB + 6 + (3 : Int32).toNatClampNeg) := by decide
/-- a fresh row of ints -/
theorem okA_2 {p q : Int32} (hb : Hn h < xv_SB) : okA (Uei (Uei (Unw h 100 2 2) (Hn h) 0 p) (Hn h) 1 q) (Hn h) [p, q] := by
  refine ⟨by rw [lv_Uei, lv_Uei]; exact lv_Unw hb, by rw [Hl_Uei, Hl_Uei, Hl_Unw, if_pos rfl]; rfl, fun i hi => ?_⟩
  have : i = 0 ∨ i = 1 := by have : i < 2 := hi; omega
  rcases this with rfl | rfl <;> simp [Hei_Uei]
theorem okA_1 {p : Int32} (hb : Hn h < xv_SB) : okA (Uei (Unw h 100 1 1) (Hn h) 0 p) (Hn h) [p] := by
  refine ⟨by rw [lv_Uei]; exact lv_Unw hb, by rw [Hl_Uei, Hl_Unw, if_pos rfl]; rfl, fun i hi => ?_⟩
  have : i = 0 := by have : i < 1 := hi; omega
  subst this; simp [Hei_Uei]
/-- splitRoot, once the new root's rows are there -/
theorem c39_tail {A1 A2 hi1 hi2 : Nat} {m : Int32} (hB : isB B) (l60 : v.2.2.2.2.1.length < 60) (i60 : v.2.2.2.2.2.length < 60) (l2 : 2 ≤ v.2.2.2.2.1.length) (i2 : 2 ≤ v.2.2.2.2.2.length) (hh1 : hi1 < 24) (hh2 : hi2 < 24) (g : hb 60 h0) (o : cs h0 B c z (some x0, s, a, d)) (oc : okCell h0 x0 v) (o1 : okA h0 A1 [m]) (o2 : okA h0 A2 [Int32.ofNat hi1, Int32.ofNat hi2]) (m1_ : 77 ≤ A1) (m2_ : 77 ≤ A2) : tot (mb (vc 1 B) fun _ => mb (m23 F B (some (xv_SB + 14))) fun v11 => mb (gr 106 B) fun v12 => mb (nn v12) fun v13 => mb (gr 701 v13) fun v14 => mb (nn v14) fun v15 => mb (vc 6 v15) fun _ => mb (m42 F v15) fun v16 => mb (nn v11) fun v17 => mb (vc 4 v17) fun _ => mb (m25 F v17 (some (xv_SB + 10)) (Int32.ofNat hi1) (0 : Int32) v16) fun _ => mb (gr 106 B) fun v18 => mb (nn v18) fun v19 => mb (gr 701 v19) fun v20 => mb (nn v20) fun v21 => mb (vc 6 v21) fun _ => mb (m47 F v21) fun v22 => mb (vc 4 v17) fun _ => mb (m25 F v17 (some (xv_SB + 10)) (Int32.ofNat hi2) (0 : Int32) v22) fun _ => mb (gr 106 B) fun v23 => mb (nn v23) fun v24 => mb (gi 700 v24) fun v25 => mb (nw 6 5) fun v26 => mb (m1 F v26 (2 : Int32) (0 : Int32) (100 : Int32) (some A1) (some A2)) fun _ => mb (vc 4 v17) fun _ => mb (m25 F v17 (some (xv_SB + 9)) (0 : Int32) v25 (some v26)) fun _ => mr ()) h0 (fun _ h' => ∃ a' d', ext 20 (XfC B) (XaC B) h0 h' ∧ cs h' B c z (some x0, s, a', d') ∧ dft h0 h' c a' d' (some ([(4, hi1, 0, zleft v.2), (4, hi2, 0, zright v.2), (3, 0, v.1, (2, 0, 100, [m], [Int32.ofNat hi1, Int32.ofNat hi2]))], 3))) := by
  have hl := cs_lt o
  have cm := calmC (h := h0) hB
  have hB' := hB
  unfold isB at hB'
  refine tot_bind (ok_vc (cs_lB o)) ?_
  refine tot_mb (c23_tot hB (hb_le g (by decide)) o) (fun r h1 q => ?_)
  obtain ⟨x, rfl, hx, E1, c1, t1, n1⟩ := q
  refine tot_bind (cs_106 c1) ?_
  rw [nn_some, mb_mr]
  obtain ⟨nb, p1, p2, p3, p4⟩ := cell_d (okCell_c E1 cm oc)
  refine tot_bind p1 ?_
  rw [nn_some, mb_mr]
  refine tot_bind p4 ?_
  refine tot_mb (c42_tot p3 l60 i60 l2 i2 (hb_ext (r := 5) E1 (hb_le g (by decide)))) (fun r h2 q => ?_)
  obtain ⟨n1', rfl, e2, on1⟩ := q
  obtain ⟨E2, c2, t2, n2⟩ := al_tx E1 c1 t1 n1 e2
  rw [nn_some, mb_mr]
  refine tot_bind (ok_vc t2.1.1) ?_
  refine tot_mb (c25_cs (i := (4, hi1, 0, zleft v.2)) E2 hx hl c2 t2 n2 (by decide) hh1 k4 (fun _ => ⟨n1', rfl, on1⟩) (hb_le g (by decide))) (fun _ h3 q => ?_)
  obtain ⟨E3, c3, t3, n3⟩ := q
  refine tot_bind (cs_106 c3) ?_
  rw [nn_some, mb_mr]
  obtain ⟨nb3, p1, p2, p3, p4⟩ := cell_d (okCell_c E3 cm oc)
  refine tot_bind p1 ?_
  rw [nn_some, mb_mr]
  refine tot_bind p4 ?_
  refine tot_mb (c47_tot p3 l60 i60 l2 i2 (hb_ext (r := 5) E3 (hb_le g (by decide)))) (fun r h4 q => ?_)
  obtain ⟨n4', rfl, e4, on4⟩ := q
  obtain ⟨E4, c4, t4, n4⟩ := al_tx E3 c3 t3 n3 e4
  refine tot_bind (ok_vc t4.1.1) ?_
  refine tot_mb (c25_cs (i := (4, hi2, 0, zright v.2)) E4 hx hl c4 t4 n4 (by show 1 < 6; decide) hh2 k4 (fun _ => ⟨n4', rfl, on4⟩) (hb_le g (by decide))) (fun _ h5 q => ?_)
  obtain ⟨E5, c5, t5, n5⟩ := q
  refine tot_bind (cs_106 c5) ?_
  rw [nn_some, mb_mr]
  obtain ⟨nb5, p1, p2, p3, p4⟩ := cell_d (okCell_c E5 cm oc)
  refine tot_bind p2 (tot_bind ok_nw ?_)
  have e6 : ext 1 Xf0 Xa0 h5 (Unw h5 6 0 5) := ext_nw (by decide)
  have hb5 := hb_ext (r := 8) E5 (hb_le g (by decide))
  have l6 : lv (Unw h5 6 0 5) (Hn h5) 6 := lv_Unw (by have := hb5.2; rw [SB_val]; omega)
  have k1 : okA (Unw h5 6 0 5) A1 [m] := okA_ext0 e6 (okA_ext E5 (fun q => by unfold XaC at q; omega) o1)
  have k2 : okA (Unw h5 6 0 5) A2 [Int32.ofNat hi1, Int32.ofNat hi2] := okA_ext0 e6 (okA_ext E5 (fun q => by unfold XaC at q; omega) o2)
  refine tot_mb (c1_tot l6 k1 k2 (Or.inr m1_) (Or.inr m2_)) (fun _ h7 q => ?_)
  obtain ⟨e7, on7⟩ := q
  have e67 : ext 1 Xf0 Xa0 h5 h7 := ext_newf (k1 := 1) (k2 := 0) e6 e7 (Nat.le_refl _)
  obtain ⟨E7, c7, t7, n7⟩ := al_tx E5 c5 t5 n5 e67
  refine tot_bind (ok_vc t7.1.1) ?_
  refine tot_mb (c25_cs (i := (3, 0, v.1, (2, 0, 100, [m], [Int32.ofNat hi1, Int32.ofNat hi2]))) E7 hx hl c7 t7 n7 (by show 2 < 6; decide) (by show 0 < 24; decide) k3 (fun _ => ⟨_, rfl, on7⟩) (hb_le g (by decide))) (fun _ h8 q => ?_)
  obtain ⟨E8, c8, t8, n8⟩ := q
  exact tot_mr ⟨_, _, ext_le E8 (by decide), c8, x, rfl, hx, rfl, t8, n8⟩
/-- splitRoot -/
theorem c39_tot (hB : isB B) (l60 : v.2.2.2.2.1.length < 60) (i60 : v.2.2.2.2.2.length < 60) (l2 : 2 ≤ v.2.2.2.2.1.length) (i2 : 2 ≤ v.2.2.2.2.2.length) (hh : c_hi z < 24) (g : hb 80 h) (o : cs h B c z (some x0, s, a, d)) (oc : okCell h x0 v) : tot (m39 F B) h (fun _ h' => ∃ a' d', ext 22 (XfC B) (XaC B) h h' ∧ cs h' B c (c_hi_ z (znext (znext (c_hi z)))) (some x0, s, a', d') ∧ dft h h' c a' d' (some ([(4, c_hi z, 0, zleft v.2), (4, znext (c_hi z), 0, zright v.2), (3, 0, v.1, (2, 0, 100, [zmid v.2], [Int32.ofNat (c_hi z), Int32.ofNat (znext (c_hi z))]))], 3))) := by
  have hl := cs_lt o
  have cm := calmC (h := h) hB
  unfold m39 b39_0
  rw [nn_some, mb_mr]
  refine tot_bind (ok_vc (cs_lB o)) ?_
  refine tot_mb (c40_tot hB hh o) (fun r h1 q => ?_)
  obtain ⟨rfl, E1, o1⟩ := q
  refine tot_bind (ok_vc (cs_lB o1)) ?_
  refine tot_mb (c40_tot hB (by rw [c_hi_hi]; exact znext_lt hh) o1) (fun r h2 q => ?_)
  obtain ⟨rfl, E2', o2⟩ := q
  rw [c_hi_hi, c_hi_hi2] at o2
  rw [c_hi_hi]
  have E2 := ext_trans (k1 := 0) (k2 := 0) E1 E2'
  have g2 := hb_ext (r := 79) E2 (hb_le g (by decide))
  refine tot_bind (ok_na (by decide) (by decide)) ?_
  have e3 : ext 1 Xf0 Xa0 h2 (Unw h2 100 (1 : Int32).toNatClampNeg (1 : Int32).toNatClampNeg) := ext_nw (by decide)
  have o3 := cs_c0 e3 o2
  refine tot_bind (cs_106 o3) ?_
  rw [nn_some, mb_mr]
  obtain ⟨nb, p1, p2, p3, p4⟩ := cell_d (okCell_c e3 calm0 (okCell_c E2 cm oc))
  refine tot_bind p1 ?_
  rw [nn_some, mb_mr]
  refine tot_bind p4 (tot_bind (c41_eq p3 (by omega) (by omega)) ?_)
  refine tot_bind (ok_si (lv_Unw (by have := g2.2; rw [SB_val]; omega)) (by decide) (by rw [Hl_Unw, if_pos rfl]; decide)) ?_
  have A1 := okA_1 (h := h2) (p := zmid v.2) (by have := g2.2; rw [SB_val]; omega)
  have e4 : ext 1 Xf0 Xa0 h2 (Uei (Unw h2 100 1 1) (Hn h2) 0 (zmid v.2)) := ext_eiS (ext_nw (by decide)) (Or.inr (Nat.le_refl _))
  refine tot_bind (ok_na (by decide) (by decide)) ?_
  generalize e4' : Uei (Unw h2 100 (1 : Int32).toNatClampNeg (1 : Int32).toNatClampNeg) (Hn h2) (0 : Int32).toNatClampNeg (zmid v.2) = h4
  have e4'' : Uei (Unw h2 100 1 1) (Hn h2) 0 (zmid v.2) = h4 := e4'
  rw [e4''] at A1 e4
  have g4 := hb_ext (r := 78) e4 (hb_le g2 (by decide))
  have s4 : Hn h4 < xv_SB := by have := g4.2; rw [SB_val]; omega
  refine tot_bind (ok_si (lv_Unw s4) (by decide) (by rw [Hl_Unw, if_pos rfl]; decide)) ?_
  refine tot_bind (ok_si (by rw [lv_Uei]; exact lv_Unw s4) (by decide) (by rw [Hl_Uei, Hl_Unw, if_pos rfl]; decide)) ?_
  have A2 := okA_2 (h := h4) (p := Int32.ofNat (c_hi z)) (q := Int32.ofNat (znext (c_hi z))) s4
  have e5 : ext 1 Xf0 Xa0 h4 (Uei (Uei (Unw h4 100 2 2) (Hn h4) 0 (Int32.ofNat (c_hi z))) (Hn h4) 1 (Int32.ofNat (znext (c_hi z)))) := ext_eiS (ext_eiS (ext_nw (by decide)) (Or.inr (Nat.le_refl _))) (Or.inr (Nat.le_refl _))
  generalize e5' : Uei (Uei (Unw h4 100 (2 : Int32).toNatClampNeg (2 : Int32).toNatClampNeg) (Hn h4) (0 : Int32).toNatClampNeg (Int32.ofNat (c_hi z))) (Hn h4) (1 : Int32).toNatClampNeg (Int32.ofNat (znext (c_hi z))) = h5
  have e5'' : Uei (Uei (Unw h4 100 2 2) (Hn h4) 0 (Int32.ofNat (c_hi z))) (Hn h4) 1 (Int32.ofNat (znext (c_hi z))) = h5 := e5'
  rw [e5''] at A2 e5
  have E24 := ext_trans (k1 := 1) (k2 := 1) e4 e5
  have o5 := cs_c0 E24 o2
  have E5 : ext 2 (XfC B) (XaC B) h h5 := ext_trans (k1 := 0) (k2 := 2) E2 (ext_any E24)
  have g5 := hb_ext (r := 60) E5 (hb_le g (by decide))
  refine tot_mono (c39_tail hB l60 i60 l2 i2 hh (znext_lt hh) g5 o5 (okCell_c E5 cm oc) (okA_ext0 e5 A1) A2 g2.1 g4.1) (fun _ h6 q => ?_)
  obtain ⟨a', d', E6, c6, x, x1, x2, x3⟩ := q
  exact ⟨a', d', ext_trans (k1 := 2) (k2 := 20) E5 E6, c6, x, x1, Nat.le_trans E5.1.1 x2, x3⟩
/-- splitBelow -/
theorem c48_tot {p px : Nat} (hB : isB B) (hF : 1000 ≤ F) (l60 : v.2.2.2.2.1.length < 60) (i60 : v.2.2.2.2.2.length < 60) (l2 : 2 ≤ v.2.2.2.2.1.length) (i2 : 2 ≤ v.2.2.2.2.2.length) (ul : u.2.2.2.2.1.length < 60) (ui : u.2.2.2.2.2.length < 60) (und : u.2.2.2.2.2.Nodup) (um : Int32.ofNat (zlast (c_pa z)) ∈ u.2.2.2.2.2) (hp : p < 24) (hh : c_hi z < 24) (g : hb 80 h) (o : cs h B c z (some x0, s, a, d)) (oc : okCell h x0 v) (ou : okCell h px u) : tot (m48 F B (Int32.ofNat p) (some px)) h (fun _ h' => ∃ a' d', ext 22 (XfC B) (XaC B) h h' ∧ cs h' B c (c_hi_ z (znext (c_hi z))) (some x0, s, a', d') ∧ dft h h' c a' d' (some ([(3, zlast (c_pa z), v.1, zleft v.2), (4, c_hi z, 0, zright v.2), (3, p, u.1, zbehind u.2 (Int32.ofNat (zlast (c_pa z))) (zmid v.2) (Int32.ofNat (c_hi z)))], 3))) := by
  have hl := cs_lt o
  have hpa := zlast_lt o.1.2.2.1
  unfold m48 b48_0
  rw [nn_some, mb_mr]
  refine tot_bind (ok_vc (cs_lB o)) (tot_bind (c19_eq o) (tot_bind (ok_vc (cs_lB o)) ?_))
  refine tot_mb (c40_tot hB hh o) (fun r h1 q => ?_)
  obtain ⟨rfl, E1, o1⟩ := q
  have cm := calmC (h := h) hB
  rw [nn_some, mb_mr]
  obtain ⟨pn, u1, u2, u3, u4⟩ := cell_d (okCell_c E1 cm ou)
  obtain ⟨nb, p1, p2, p3, p4⟩ := cell_d (okCell_c E1 cm oc)
  refine tot_bind u1 (tot_bind (cs_106 o1) ?_)
  rw [nn_some, mb_mr]
  refine tot_bind p1 ?_
  rw [nn_some, mb_mr]
  refine tot_bind p4 (tot_bind (c41_eq p3 (by omega) (by omega)) ?_)
  rw [nn_some, mb_mr]
  refine tot_bind u4 ?_
  refine tot_mb (c49_tot u3 ul ui und um hF (hb_ext (r := 5) E1 (hb_le g (by decide)))) (fun r h2 q => ?_)
  obtain ⟨gn, rfl, e2, og⟩ := q
  have E2 := ext_trans (k1 := 0) (k2 := 3) E1 (ext_any e2)
  have o2 := cs_c0 e2 o1
  have g2 := hb_ext (r := 60) E2 (hb_le g (by decide))
  have oc2 := okCell_c E2 cm oc
  have ou2 := okCell_c E2 cm ou
  have cm2 := calmC (h := h2) hB
  have hl2 := cs_lt o2
  clear u1 u2 u3 u4 p1 p2 p3 p4
  refine tot_bind (ok_vc (cs_lB o2)) ?_
  refine tot_mb (c23_tot hB (hb_le g2 (by decide)) o2) (fun r h3 q => ?_)
  obtain ⟨x, rfl, hx, E3, c3, t3, n3⟩ := q
  obtain ⟨nb, p1, p2, p3, p4⟩ := cell_d (okCell_c E3 cm2 oc2)
  refine tot_bind (cs_106 c3) ?_
  rw [nn_some, mb_mr]
  refine tot_bind p2 (tot_bind (cs_106 c3) ?_)
  rw [nn_some, mb_mr]
  refine tot_bind p1 ?_
  rw [nn_some, mb_mr]
  refine tot_bind p4 ?_
  refine tot_mb (c42_tot p3 l60 i60 l2 i2 (hb_ext (r := 5) E3 (hb_le g2 (by decide)))) (fun r h4 q => ?_)
  obtain ⟨n4', rfl, e4, on4⟩ := q
  obtain ⟨E4, c4, t4, n4⟩ := al_tx E3 c3 t3 n3 e4
  rw [nn_some, mb_mr]
  refine tot_bind (ok_vc t4.1.1) ?_
  refine tot_mb (c25_cs (i := (3, zlast (c_pa z), v.1, zleft v.2)) E4 hx hl2 c4 t4 n4 (by decide) hpa k3 (fun _ => ⟨n4', rfl, on4⟩) (hb_le g2 (by decide))) (fun _ h5 q => ?_)
  obtain ⟨E5, c5, t5, n5⟩ := q
  clear p1 p2 p3 p4
  obtain ⟨nb, p1, p2, p3, p4⟩ := cell_d (okCell_c E5 cm2 oc2)
  refine tot_bind (cs_106 c5) ?_
  rw [nn_some, mb_mr]
  refine tot_bind p1 ?_
  rw [nn_some, mb_mr]
  refine tot_bind p4 ?_
  refine tot_mb (c47_tot p3 l60 i60 l2 i2 (hb_ext (r := 5) E5 (hb_le g2 (by decide)))) (fun r h6 q => ?_)
  obtain ⟨n6', rfl, e6, on6⟩ := q
  obtain ⟨E6, c6, t6, n6⟩ := al_tx E5 c5 t5 n5 e6
  refine tot_bind (ok_vc t6.1.1) ?_
  refine tot_mb (c25_cs (i := (4, c_hi z, 0, zright v.2)) E6 hx hl2 c6 t6 n6 (by show 1 < 6; decide) hh k4 (fun _ => ⟨n6', rfl, on6⟩) (hb_le g2 (by decide))) (fun _ h7 q => ?_)
  obtain ⟨E7, c7, t7, n7⟩ := q
  obtain ⟨pn, u1, u2, u3, u4⟩ := cell_d (okCell_c E7 cm2 ou2)
  refine tot_bind u2 (tot_bind (ok_vc t7.1.1) ?_)
  refine tot_mb (c25_cs (i := (3, p, u.1, zbehind u.2 (Int32.ofNat (zlast (c_pa z))) (zmid v.2) (Int32.ofNat (c_hi z)))) E7 hx hl2 c7 t7 n7 (by show 2 < 6; decide) hp k3 (fun _ => ⟨gn, rfl, okN_c E7 cm2 og⟩) (hb_le g2 (by decide))) (fun _ h8 q => ?_)
  obtain ⟨E8, c8, t8, n8⟩ := q
  exact tot_mr ⟨_, _, ext_le (ext_trans E2 E8) (by decide), c8, x, rfl, Nat.le_trans E2.1.1 hx, rfl, t8, n8⟩
/-- what a client asks of its copies -/
def wfI (N : zN) : Prop := N.2.2.2.1.length < 60 ∧ N.2.2.2.1.length < N.2.2.2.2.length ∧ N.2.2.2.2.length < 60 ∧ N.2.2.2.2.Nodup ∧ ∀ q, q ∈ N.2.2.2.2 → 0 ≤ q ∧ q.toNatClampNeg < 24
/-- split -/
theorem c38_tot (hB : isB B) (hF : 1000 ≤ F) (l60 : v.2.2.2.2.1.length < 60) (i60 : v.2.2.2.2.2.length < 60) (l2 : 2 ≤ v.2.2.2.2.1.length) (i2 : 2 ≤ v.2.2.2.2.2.length) (hu : ∀ q, c_cp z (zpar (c_pa z)) = some q → ¬ (c_pa z).length = 1 → wfI q.2 ∧ Int32.ofNat (zlast (c_pa z)) ∈ q.2.2.2.2.2) (hh : c_hi z < 24) (g : hb 80 h) (o : cs h B c z (some x0, some (xv_SB + 18), a, none)) (oc : okCell h x0 v) : tot (m38 F B) h (fun _ h' => ∃ s' a' d', ext 22 (XfC B) (XaC B) h h' ∧ cs h' B c (Dsplit z v).1 (some x0, s', a', d') ∧ dft h h' c a' d' (Dsplit z v).2) := by
  obtain ⟨q1, q2, q3, q5, q4⟩ := o.1.2.2.1
  unfold m38 b38_0
  rw [nn_some, mb_mr]
  refine tot_bind (cs_104 o) ?_
  have l1 : (Int32.ofNat (c_pa z).length = 1) ↔ (c_pa z).length = 1 := i_eq (b := 1) (by omega) (by decide)
  refine tot_if (fun n => ?_) (fun n => ?_)
  · have n : ¬ (c_pa z).length = 1 := fun q => n (l1.mpr q)
    have hp : zpar (c_pa z) < 24 := (q4 ((c_pa z).length - 2) (by omega)).2
    unfold b38_13
    rw [nn_some, mb_mr]
    refine tot_bind (cs_103 o) (tot_bind (cs_104 o) ?_)
    rw [nn_some, mb_mr, show (2 : Int32) = Int32.ofNat 2 from rfl, i_sub (by omega) (by omega)]
    refine tot_bind (ok_li (cs_lP o).1 (i_nn (by omega)) (by rw [i_nat (by omega), (cs_lP o).2]; omega)) ?_
    rw [i_nat (by omega), (q4 ((c_pa z).length - 2) (by omega)).1]
    refine tot_bind (cs_101 o) ?_
    rw [nn_some, mb_mr]
    show tot (mb (lr 108 (B + 1) (Int32.ofNat (zpar (c_pa z)))) _) h _
    refine tot_bind (ok_lr (cs_lC o).1 (i_nn (by omega)) (by rw [i_nat (by omega), (cs_lC o).2]; exact hp)) ?_
    rw [i_nat (by omega)]
    have okp := o.1.2.2.2.2 _ hp
    cases hc : c_cp z (zpar (c_pa z)) with
    | none =>
      rw [hc] at okp
      have okp : Her h (B + 1) (zpar (c_pa z)) = none := okp
      have hD : Dsplit z v = (c_st_ z 4, none) := by unfold Dsplit; rw [if_neg n, hc]
      rw [okp, if_neg (fun q => q rfl), hD]
      unfold b38_36
      rw [nn_some, mb_mr]
      refine tot_bind (ok_vc (cs_lB o)) ?_
      exact tot_mb (c18_tot hB o) (fun _ h2 r => tot_mr ⟨_, _, _, ext_le r.1 (by decide), r.2, rfl⟩)
    | some u =>
      rw [hc] at okp
      obtain ⟨px, okp, ou⟩ := okp
      obtain ⟨⟨w1, w2, w3, w4, w5⟩, um⟩ := hu u hc n
      have hD : Dsplit z v = (c_hi_ z (znext (c_hi z)), some ([(3, zlast (c_pa z), v.1, zleft v.2), (4, c_hi z, 0, zright v.2), (3, zpar (c_pa z), u.1, zbehind u.2 (Int32.ofNat (zlast (c_pa z))) (zmid v.2) (Int32.ofNat (c_hi z)))], 3)) := by unfold Dsplit; rw [if_neg n, hc]
      rw [okp, if_pos (fun q => by cases q), hD]
      unfold b38_43
      rw [nn_some, mb_mr]
      refine tot_bind (ok_vc (cs_lB o)) ?_
      refine tot_mb (c48_tot hB hF l60 i60 l2 i2 w1 w3 w4 um hp hh g o oc ou) (fun _ h2 r => ?_)
      obtain ⟨a', d', r1, r2, r3⟩ := r
      exact tot_mr ⟨_, a', d', r1, r2, r3⟩
  · have n : (c_pa z).length = 1 := l1.mp (Classical.not_not.mp n)
    have hD : Dsplit z v = (c_hi_ z (znext (znext (c_hi z))), some ([(4, c_hi z, 0, zleft v.2), (4, znext (c_hi z), 0, zright v.2), (3, 0, v.1, (2, 0, 100, [zmid v.2], [Int32.ofNat (c_hi z), Int32.ofNat (znext (c_hi z))]))], 3)) := by unfold Dsplit; rw [if_pos n]
    rw [hD]
    unfold b38_8
    rw [nn_some, mb_mr]
    refine tot_bind (ok_vc (cs_lB o)) ?_
    refine tot_mb (c39_tot hB l60 i60 l2 i2 hh g o oc) (fun _ h2 r => ?_)
    obtain ⟨a', d', r1, r2, r3⟩ := r
    exact tot_mr ⟨_, a', d', r1, r2, r3⟩
end CL5
