/-! The reference: agreed; the whole relation. -/
/-- items of all transactions -/
def nIt (ti : Nat → List zI) : Nat → Nat
  | 0 => 0
  | t + 1 => nIt ti t + (ti (t + 1)).length
def RR (h : xv_H) (S : zS) : Prop := RX h S (nIt (s_ti S) (s_bg S)) [] 0 (lev (s_cl S 0))
section RHEAR2
variable {h h1 : xv_H} {F i j x p q v s a b c n0 L L2 n t m : Nat} {nd : Int64} {N : zN} {k va vb vd ver : Int32} {S : zS} {P : List zI} {z : zC} {D : zD}
theorem goOK_oa {so : Option (Int32 × zN)} {an : Nat → Bool} (o : goOK z so) : goOK (c_op_ (c_an_ z an) t) so := by
  unfold goOK runOK okW lkOK at *
  simp only [c_cp_op, c_hi_op, c_jb_op, c_st_op, c_fu_op, c_go_op, c_fr_op, c_up_op, c_wa_op, c_re_op, c_fo_op, c_an_op, c_sg_op, c_pa_op, c_lf_op, c_cp_an, c_hi_an, c_jb_an, c_st_an, c_fu_an, c_go_an, c_fr_an, c_up_an, c_wa_an, c_re_an, c_fo_an, c_op_an, c_sg_an, c_pa_an, c_lf_an]
  exact o
theorem r162_tot {so : Option (Int32 × zN)} (hF : 1000 ≤ F) (hc : c < 2) (hm : m < 3) (tx : txOK S t) (hop : c_op (s_cl S c) = t) (hn : n0 + 6 ≤ 1600) (hbg : s_bg S < 512) (o : RX h S n0 [] c 3) (od : ∀ v, so = some v → ver = v.1 ∧ decN nd va vb vd v.2) (go : goOK (s_cl S c) so) : tot (m162 F 37 (Int32.ofNat c) (Int32.ofNat m) ver nd va vb vd) h (fun _ h' => agR h h' ∧ (if ((!(tp (s_ti S t) 0) || fset (c_an (s_cl S c)) m true 0) && (!(tp (s_ti S t) 1) || fset (c_an (s_cl S c)) m true 1) && (!(tp (s_ti S t) 2) || fset (c_an (s_cl S c)) m true 2)) = true then EN h' (s_ms_ S (if sev (s_ti S t) then snd3 (tp (s_ti S t)) 4 t (s_ms S) else s_ms S)) c (Dgo (c_op_ (c_an_ (s_cl S c) (fset (c_an (s_cl S c)) m true)) 0) so) n0 else RX h' (s_cl_ S (fset (s_cl S) c (c_an_ (s_cl S c) (fset (c_an (s_cl S c)) m true)))) n0 [] c 3)) := by
  obtain ⟨F', rfl⟩ : ∃ k, F = k + 4 := ⟨F - 4, by omega⟩
  have rf := o.1
  have rc := o.2.2.2.2.2.2.2.1
  have t1 := tx.1
  have e69 : Hei h 69 c = Int32.ofNat t := rv_at rc (by unfold rv; simp [hop])
  have e70 : Hei h 70 c = amask (c_an (s_cl S c)) := rv_at rc (by unfold rv; simp [hop, show ¬ t = 0 by omega])
  unfold m162 b162_0
  rw [nn_some, mb_mr]
  refine tot_bind (g934 rf) ?_
  rw [nn_some, mb_mr]
  refine tot_bind (l69 rf hc) (tot_bind (g935 rf) (tot_bind (g935 rf) ?_))
  rw [e69, nn_some, mb_mr]
  refine tot_bind (l70 rf hc) ?_
  rw [e70, mb_mr, amask_or hm]
  refine tot_bind (s70 rf hc) ?_
  obtain ⟨e1, rc1⟩ := rs_an (fset (c_an (s_cl S c)) m true) rc
  have o1 := RX_cl hc e1 o rc1
  generalize Uei h 70 c (amask (fset (c_an (s_cl S c)) m true)) = h1 at *
  generalize hz1 : c_an_ (s_cl S c) (fset (c_an (s_cl S c)) m true) = z1 at *
  have ecl1 : s_cl (s_cl_ S (fset (s_cl S) c z1)) c = z1 := by rw [s_cl_cl, fset_eq, if_pos rfl]
  have z1an : c_an z1 = fset (c_an (s_cl S c)) m true := by rw [← hz1, c_an_an]
  have z1op : c_op z1 = t := by rw [← hz1, c_op_an]; exact hop
  have z1sg : c_sg z1 = c_sg (s_cl S c) := by rw [← hz1, c_sg_an]
  have hop1 : ¬ c_op (s_cl (s_cl_ S (fset (s_cl S) c z1)) c) = 0 := by rw [ecl1, z1op]; omega
  have tx1 : txOK (s_cl_ S (fset (s_cl S) c z1)) t := tx
  rw [← z1an]
  have no : ∀ j, (!(tp (s_ti S t) j) || c_an z1 j) = false → j < 3 → agR h h1 ∧ (if ((!(tp (s_ti S t) 0) || c_an z1 0) && (!(tp (s_ti S t) 1) || c_an z1 1) && (!(tp (s_ti S t) 2) || c_an z1 2)) = true then EN h1 (s_ms_ S (if sev (s_ti S t) then snd3 (tp (s_ti S t)) 4 t (s_ms S) else s_ms S)) c (Dgo (c_op_ z1 0) so) n0 else RX h1 (s_cl_ S (fset (s_cl S) c z1)) n0 [] c 3) := by
    intro j hj hj3
    refine ⟨ag_R e1, ?_⟩
    rw [if_neg]
    · exact o1
    · intro q
      rw [Bool.and_eq_true, Bool.and_eq_true] at q
      have hj' : j = 0 ∨ j = 1 ∨ j = 2 := by omega
      rcases hj' with rfl | rfl | rfl
      · rw [q.1.1] at hj; cases hj
      · rw [q.1.2] at hj; cases hj
      · rw [q.2] at hj; cases hj
  refine r162_chk (j := 0) hF hc (by decide) tx1 hop1 (by omega) o1 (fun q => no 0 (by rw [s_ti_cl, ecl1] at q; exact q) (by decide)) (fun q0 => ?_)
  refine r162_chk (j := 1) hF hc (by decide) tx1 hop1 (by omega) o1 (fun q => no 1 (by rw [s_ti_cl, ecl1] at q; exact q) (by decide)) (fun q1 => ?_)
  refine r162_chk (j := 2) hF hc (by decide) tx1 hop1 (by omega) o1 (fun q => no 2 (by rw [s_ti_cl, ecl1] at q; exact q) (by decide)) (fun q2 => ?_)
  rw [s_ti_cl, ecl1] at q0 q1 q2
  refine tot_mono (Q1 := fun _ h' => agR h h' ∧ EN h' (s_ms_ S (if sev (s_ti S t) then snd3 (tp (s_ti S t)) 4 t (s_ms S) else s_ms S)) c (Dgo (c_op_ z1 0) so) n0) ?_ (fun _ h' q => ⟨q.1, by rw [q0, q1, q2, if_pos (by decide)]; exact q.2⟩)
  unfold b162_27
  rw [if_pos (by decide)]
  unfold b162_65
  have rf1 := o1.1
  rw [nn_some, mb_mr]
  refine tot_bind (g934 rf1) ?_
  rw [nn_some, mb_mr]
  refine tot_bind (s69 rf1 hc) ?_
  obtain ⟨e2, rc2⟩ := rs_op0 rc1
  have o2 := RX_cl hc e2 o1 rc2
  rw [s_cl_fset2] at o2
  have g71 : Hei (Uei h1 69 c 0) 71 c = c_sg z1 := by
    rw [Hei_Uei, if_neg (by omega)]
    exact rv_at rc1 (by unfold rv; simp [z1op, show ¬ t = 0 by omega])
  generalize Uei h1 69 c 0 = h2 at *
  have ecl2 : s_cl (s_cl_ S (fset (s_cl S) c (c_op_ z1 0))) c = c_op_ z1 0 := by rw [s_cl_cl, fset_eq, if_pos rfl]
  have tx2 : txOK (s_cl_ S (fset (s_cl S) c (c_op_ z1 0))) t := tx
  have go2 : goOK (c_op_ z1 0) so := by rw [← hz1]; exact goOK_oa go
  cases hs : sev (s_ti S t)
  · rw [if_neg (by decide)]
    unfold b162_75
    rw [if_neg (by decide)]
    unfold b162_81
    rw [nn_some, mb_mr]
    refine tot_bind (rF_vc o2.1) (tot_bind (r135_eq hF o2.1 (by have := tx.2.1; have := tx.2.2.1; omega) tx.2.2.2.1 tx.2.2.2.2 (by omega) (o2.2.2.2.1.2 t t1 tx.2.1)) ?_)
    rw [if_pos (by rw [cnt_sev]; exact hs)]
    have t3 := r162_go (F := F' + 4) (ver := ver) (nd := nd) (va := va) (vb := vb) (vd := vd) (so := so) hF hc (by rw [ecl2, c_sg_op]; exact g71) hn (by exact hbg) o2 (by rw [ecl2]; exact go2) od
    rw [ecl2] at t3
    refine tot_mono t3 (fun _ h3 q3 => ⟨agR_trans (agR_trans (ag_R e1) (ag_R e2)) q3.1, ?_⟩)
    exact EN_of q3.2
  · rw [if_pos rfl]
    refine r162_snd (j := 0) hF hc (by decide) tx2 (by exact hs) (by omega) o2 (fun h3 e3 o3 => ?_)
    refine r162_snd (j := 1) hF hc (by decide) (by exact tx2) (by exact hs) (by omega) o3 (fun h4 e4 o4 => ?_)
    refine r162_snd (j := 2) hF hc (by decide) (by exact tx2) (by exact hs) (by omega) o4 (fun h5 e5 o5 => ?_)
    unfold b162_75
    rw [if_pos (by decide)]
    rw [s_ms_ms2, s_ms_ms2, s_ti_ms, s_ti_ms, s_ms_ms, s_ms_ms, s_ti_cl, s_ms_cl] at o5
    have o5' : RX h5 (s_ms_ (s_cl_ S (fset (s_cl S) c (c_op_ z1 0))) (snd3 (tp (s_ti S t)) 4 t (s_ms S))) n0 [] c 3 := by rw [snd3_eq]; exact o5
    have ecl5 : s_cl (s_ms_ (s_cl_ S (fset (s_cl S) c (c_op_ z1 0))) (snd3 (tp (s_ti S t)) 4 t (s_ms S))) c = c_op_ z1 0 := by rw [s_cl_ms, ecl2]
    have e25 : ag (fun a i => ¬ KQ a i) h2 h5 := ag_trans (ag_trans e3 e4) e5
    have g71' : Hei h5 71 c = c_sg z1 := by rw [(ag_e e25 (by unfold KQ; omega)).1]; exact g71
    have t6 := r162_go (F := F' + 4) (ver := ver) (nd := nd) (va := va) (vb := vb) (vd := vd) (so := so) hF hc (by rw [ecl5, c_sg_op]; exact g71') hn (by exact hbg) o5' (by rw [ecl5]; exact go2) od
    rw [ecl5] at t6
    refine tot_mono t6 (fun _ h6 q6 => ⟨agR_trans (agR_trans (agR_trans (ag_R e1) (ag_R e2)) (ag_R e25)) q6.1, ?_⟩)
    exact EN_ov q6.2
end RHEAR2
