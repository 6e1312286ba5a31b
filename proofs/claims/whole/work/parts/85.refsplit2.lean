/-! The reference: splitInner, splitLeaf. -/
section RSPL2
variable {h h1 : xv_H} {F i j x p q v s a b c n0 L : Nat} {n m : Int64} {N : zN} {k va vb vd ver : Int32} {S : zS} {P : List zI} {z : zC} {Q : Unit → xv_H → Prop}
theorem n10 : ¬ (1 : Int32) = 0 := by decide
theorem last0 (so : splOK z) : (Int32.ofNat (zlast (c_pa z)) = 0) ↔ (c_pa z).length = 1 := by
  obtain ⟨s1, s2, s3, s4, s5⟩ := so
  constructor
  · intro q; exact s4.mp (by apply Classical.byContradiction; intro r; exact i_ne0 (by omega) r q)
  · intro q; rw [s4.mpr q]; rfl
theorem r147_tot (hF : 1000 ≤ F) (hc : c < 2) (o : RX h S n0 [] c 3) (so : splOK (s_cl S c)) (hbg : s_bg S < 512) (hn : n0 + 3 ≤ 1600) (od : decN n va vb vd N) (k2 : N.1 = 2) (l3 : N.2.2.2.1.length = 3) : tot (m147 F 37 (Int32.ofNat c) n ver) h (fun _ h' => agR h h' ∧ RX h' (Zbegin S c (Dsplit (s_cl S c) (ver, N))) (n0 + 3) [] c 3) := by
  have rf := o.1
  have rc := o.2.2.2.2.2.2.2.1
  obtain ⟨dl, dr⟩ := dec_leftI od k2 l3
  have b7 := bf_lt n 4 7
  have b11 := bf_lt n 11 7
  have z0 := zkey_lt (n := n) (i := 0)
  have z1 := zkey_lt (n := n) (i := 1)
  have z2 := zkey_lt (n := n) (i := 2)
  have t := spl_half (x := (ver, N)) (F := F) hF hc o so hbg hn (zkey_lt (n := n) (i := 1)) (mid_eq od l3) dl dr
  unfold m147 b147_0
  refine tot_bind (show m148 F n 1 h = some (Int32.ofNat (zkey n 1), h) from r148_eq (i := 1) (by decide)) (tot_bind r149_eq ?_)
  refine tot_bind (show m124 F 2 (Int32.ofNat (bf n 4 7)) (Int32.ofNat (zkey n 1)) h = some (Wp 2 (bf n 4 7) (zkey n 1), h) from r124_eq (k := 2) (by decide) (by omega) (by omega)) ?_
  refine tot_bind (show m148 F n 0 h = some (Int32.ofNat (zkey n 0), h) from r148_eq (i := 0) (by decide)) ?_
  refine tot_bind (show m150 F (Wp 2 (bf n 4 7) (zkey n 1)) 0 (Int32.ofNat (zkey n 0)) h = some (Wk (Wp 2 (bf n 4 7) (zkey n 1)) 0 (zkey n 0), h) from r150_eq) ?_
  refine tot_bind (show m151 F (Wk (Wp 2 (bf n 4 7) (zkey n 1)) 0 (zkey n 0)) 1 h = some (Ws (Wk (Wp 2 (bf n 4 7) (zkey n 1)) 0 (zkey n 0)) 1, h) from r151_eq (x := 1)) ?_
  refine tot_bind (show m152 F n 0 h = some (Int32.ofNat (zchi n 0), h) from r152_eq (i := 0) (by decide)) ?_
  refine tot_bind (show m153 F (Ws (Wk (Wp 2 (bf n 4 7) (zkey n 1)) 0 (zkey n 0)) 1) 0 (Int32.ofNat (zchi n 0)) h = some (Wc (Ws (Wk (Wp 2 (bf n 4 7) (zkey n 1)) 0 (zkey n 0)) 1) 0 (zchi n 0), h) from r153_eq) ?_
  refine tot_bind (show m152 F n 1 h = some (Int32.ofNat (zchi n 1), h) from r152_eq (i := 1) (by decide)) ?_
  refine tot_bind (show m153 F (Wc (Ws (Wk (Wp 2 (bf n 4 7) (zkey n 1)) 0 (zkey n 0)) 1) 0 (zchi n 0)) 1 (Int32.ofNat (zchi n 1)) h = some (W1 (bf n 4 7) (zkey n 1) (zkey n 0) (zchi n 0) (zchi n 1), h) from r153_eq) ?_
  refine tot_bind r154_eq ?_
  refine tot_bind (show m124 F 2 (Int32.ofNat (zkey n 1)) (Int32.ofNat (bf n 11 7)) h = some (Wp 2 (zkey n 1) (bf n 11 7), h) from r124_eq (k := 2) (by decide) (by omega) (by omega)) ?_
  refine tot_bind (show m148 F n 2 h = some (Int32.ofNat (zkey n 2), h) from r148_eq (i := 2) (by decide)) ?_
  refine tot_bind (show m150 F (Wp 2 (zkey n 1) (bf n 11 7)) 0 (Int32.ofNat (zkey n 2)) h = some (Wk (Wp 2 (zkey n 1) (bf n 11 7)) 0 (zkey n 2), h) from r150_eq) ?_
  refine tot_bind (show m151 F (Wk (Wp 2 (zkey n 1) (bf n 11 7)) 0 (zkey n 2)) 1 h = some (Ws (Wk (Wp 2 (zkey n 1) (bf n 11 7)) 0 (zkey n 2)) 1, h) from r151_eq (x := 1)) ?_
  refine tot_bind (show m152 F n 2 h = some (Int32.ofNat (zchi n 2), h) from r152_eq (i := 2) (by decide)) ?_
  refine tot_bind (show m153 F (Ws (Wk (Wp 2 (zkey n 1) (bf n 11 7)) 0 (zkey n 2)) 1) 0 (Int32.ofNat (zchi n 2)) h = some (Wc (Ws (Wk (Wp 2 (zkey n 1) (bf n 11 7)) 0 (zkey n 2)) 1) 0 (zchi n 2), h) from r153_eq) ?_
  refine tot_bind (show m152 F n 3 h = some (Int32.ofNat (zchi n 3), h) from r152_eq (i := 3) (by decide)) ?_
  refine tot_bind (show m153 F (Wc (Ws (Wk (Wp 2 (zkey n 1) (bf n 11 7)) 0 (zkey n 2)) 1) 0 (zchi n 2)) 1 (Int32.ofNat (zchi n 3)) h = some (W1 (zkey n 1) (bf n 11 7) (zkey n 2) (zchi n 2) (zchi n 3), h) from r153_eq) ?_
  rw [nn_some, mb_mr]
  refine tot_bind (rF_vc rf) (tot_bind (r145_eq rf hc rc so.2.1) ?_)
  by_cases hl : (c_pa (s_cl S c)).length = 1
  · rw [if_neg (fun z => z ((last0 so).mpr hl))]
    rw [if_pos hl, if_pos hl, decide_eq_true hl] at t
    unfold b147_109 b147_114
    rw [if_neg n10]
    unfold b147_121
    rw [nn_some, mb_mr]
    refine tot_bind (rF_vc rf) ?_
    simp only [b147_134, b147_149, b147_154, nn_some, mb_mr, n10, if_false]
    exact t
  · rw [if_pos (fun z => hl ((last0 so).mp z))]
    rw [if_neg hl, if_neg hl, decide_eq_false hl] at t
    unfold b147_113 b147_114
    rw [if_pos rfl]
    unfold b147_129
    simp only [b147_134, b147_153, b147_154, nn_some, mb_mr, if_true]
    have asc : ∀ {α β γ : Type} (p : xm α) (q : α → xm β) (r : β → xm γ), mb (mb p q) r = mb p (fun x => mb (q x) r) := by
      intro α β γ p q r
      funext h
      unfold mb
      cases p h with
      | none => rfl
      | some y => rfl
    rw [asc] at t
    exact t
theorem r168_tot (hF : 1000 ≤ F) (hc : c < 2) (o : RX h S n0 [] c 3) (so : splOK (s_cl S c)) (hbg : s_bg S < 512) (hn : n0 + 3 ≤ 1600) (od : decN n va vb vd N) (k1 : N.1 = 1) (l3 : N.2.2.2.1.length = 3) : tot (m168 F 37 (Int32.ofNat c) ver n va vb vd) h (fun _ h' => agR h h' ∧ RX h' (Zbegin S c (Dsplit (s_cl S c) (ver, N))) (n0 + 3) [] c 3) := by
  have rf := o.1
  have rc := o.2.2.2.2.2.2.2.1
  obtain ⟨dl, dr⟩ := dec_leftL od k1 l3
  have b7 := bf_lt n 4 7
  have b11 := bf_lt n 11 7
  have z0 := zkey_lt (n := n) (i := 0)
  have z1 := zkey_lt (n := n) (i := 1)
  have z2 := zkey_lt (n := n) (i := 2)
  have t := spl_half (x := (ver, N)) (F := F) hF hc o so hbg hn (zkey_lt (n := n) (i := 1)) (mid_eq od l3) dl dr
  unfold m168 b168_0
  refine tot_bind (show m148 F n 1 h = some (Int32.ofNat (zkey n 1), h) from r148_eq (i := 1) (by decide)) (tot_bind r149_eq ?_)
  refine tot_bind (show m124 F 1 (Int32.ofNat (bf n 4 7)) (Int32.ofNat (zkey n 1)) h = some (Wp 1 (bf n 4 7) (zkey n 1), h) from r124_eq (k := 1) (by decide) (by omega) (by omega)) ?_
  refine tot_bind (show m148 F n 0 h = some (Int32.ofNat (zkey n 0), h) from r148_eq (i := 0) (by decide)) ?_
  refine tot_bind (show m150 F (Wp 1 (bf n 4 7) (zkey n 1)) 0 (Int32.ofNat (zkey n 0)) h = some (Wk (Wp 1 (bf n 4 7) (zkey n 1)) 0 (zkey n 0), h) from r150_eq) ?_
  refine tot_bind (show m151 F (Wk (Wp 1 (bf n 4 7) (zkey n 1)) 0 (zkey n 0)) 1 h = some (WL (bf n 4 7) (zkey n 1) (zkey n 0), h) from r151_eq (x := 1)) ?_
  refine tot_bind r154_eq ?_
  refine tot_bind (show m124 F 1 (Int32.ofNat (zkey n 1)) (Int32.ofNat (bf n 11 7)) h = some (Wp 1 (zkey n 1) (bf n 11 7), h) from r124_eq (k := 1) (by decide) (by omega) (by omega)) ?_
  refine tot_bind (show m150 F (Wp 1 (zkey n 1) (bf n 11 7)) 0 (Int32.ofNat (zkey n 1)) h = some (Wk (Wp 1 (zkey n 1) (bf n 11 7)) 0 (zkey n 1), h) from r150_eq) ?_
  refine tot_bind (show m148 F n 2 h = some (Int32.ofNat (zkey n 2), h) from r148_eq (i := 2) (by decide)) ?_
  refine tot_bind (show m150 F (Wk (Wp 1 (zkey n 1) (bf n 11 7)) 0 (zkey n 1)) 1 (Int32.ofNat (zkey n 2)) h = some (Wk (Wk (Wp 1 (zkey n 1) (bf n 11 7)) 0 (zkey n 1)) 1 (zkey n 2), h) from r150_eq) ?_
  refine tot_bind (show m151 F (Wk (Wk (Wp 1 (zkey n 1) (bf n 11 7)) 0 (zkey n 1)) 1 (zkey n 2)) 2 h = some (WR (zkey n 1) (bf n 11 7) (zkey n 1) (zkey n 2), h) from r151_eq (x := 2)) ?_
  rw [nn_some, mb_mr]
  refine tot_bind (rF_vc rf) (tot_bind (r145_eq rf hc rc so.2.1) ?_)
  by_cases hl : (c_pa (s_cl S c)).length = 1
  · rw [if_neg (fun z => z ((last0 so).mpr hl))]
    rw [if_pos hl, if_pos hl, decide_eq_true hl] at t
    unfold b168_71 b168_76
    rw [if_neg n10]
    unfold b168_83
    rw [nn_some, mb_mr]
    refine tot_bind (rF_vc rf) ?_
    simp only [b168_96, b168_111, b168_116, nn_some, mb_mr, n10, if_false]
    exact t
  · rw [if_pos (fun z => hl ((last0 so).mp z))]
    rw [if_neg hl, if_neg hl, decide_eq_false hl] at t
    unfold b168_75 b168_76
    rw [if_pos rfl]
    unfold b168_91
    simp only [b168_96, b168_115, b168_116, nn_some, mb_mr, if_true]
    have asc : ∀ {α β γ : Type} (p : xm α) (q : α → xm β) (r : β → xm γ), mb (mb p q) r = mb p (fun x => mb (q x) r) := by
      intro α β γ p q r
      funext h
      unfold mb
      cases p h with
      | none => rfl
      | some y => rfl
    rw [asc] at t
    exact t
end RSPL2
