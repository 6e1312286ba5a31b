/-! The reference: splits. -/
section RSPL
variable {h h1 : xv_H} {F i j x p q v s a b c n0 L : Nat} {n m : Int64} {N : zN} {k va vb vd ver : Int32} {S : zS} {P : List zI} {z : zC} {Q : Unit → xv_H → Prop}
theorem Zbegin_cl (S : zS) (c : Nat) (z : zC) (D : zD) : Zbegin (s_cl_ S (fset (s_cl S) c z)) c D = Zbegin S c D := Zbegin_over S c z (s_ms S) D
theorem s_cl_fset2 (S : zS) (c : Nat) (z y : zC) : s_cl_ (s_cl_ S (fset (s_cl S) c z)) (fset (s_cl (s_cl_ S (fset (s_cl S) c z))) c y) = s_cl_ S (fset (s_cl S) c y) := by
  rw [s_cl_cl, fset_fset]; rfl
/-- what a split asks of the path and the parent's copy -/
def splOK (z : zC) : Prop := c_hi z < 24 ∧ 1 ≤ (c_pa z).length ∧ zlast (c_pa z) < 24 ∧ (zlast (c_pa z) = 0 ↔ (c_pa z).length = 1) ∧ (¬ (c_pa z).length = 1 → zpar (c_pa z) < 24 ∧ ∃ y, c_cp z (zpar (c_pa z)) = some y ∧ y.2.2.2.2.1.length < 3 ∧ sle y.2.2.2.2.1 ∧ Int32.ofNat (zlast (c_pa z)) ∈ y.2.2.2.2.2)
theorem wfT_nil : wfT [] := fun j hj => by cases hj
theorem wfT_app {its : List zI} {i : zI} (w : wfT its) (hk : isK i.1) (ha : i.2.1 < 24) : wfT (its ++ [i]) := by
  intro j hj
  rw [List.length_append] at hj
  by_cases q : j < its.length
  · rw [getDI_lt q]; exact w j q
  · have e : j = its.length := by have : [i].length = 1 := rfl; omega
    rw [e, getDI_eq]; exact ⟨hk, ha⟩
theorem no23 (q : (4 : Int32) = 2 ∨ (4 : Int32) = 3) : False := by rcases q with q | q <;> exact absurd q (by decide)
theorem K3 : isK 3 := Or.inr (Or.inr (Or.inl rfl))
theorem K4 : isK 4 := Or.inr (Or.inr (Or.inr rfl))
theorem rd_par (rf : rF h) (hc : c < 2) (o : rC h c z 3) (h2 : 2 ≤ (c_pa z).length) : li 72 (Int32.ofNat (24 * c + (c_pa z).length - 2)) h = some (Int32.ofNat (zpar (c_pa z)), h) := by
  obtain ⟨p1, p2⟩ := o.2.2.1 (by decide)
  rw [l72 rf (by omega), show 24 * c + (c_pa z).length - 2 = 24 * c + ((c_pa z).length - 2) by omega, p2 _ (by omega)]
  rfl
/-- above and begin -/
theorem r157_tot {mm a b : Nat} {i1 i2 : zI} (hF : 1000 ≤ F) (hc : c < 2) (o : RX h S n0 [i1, i2] c 3) (so : splOK (s_cl S c)) (hbg : s_bg S < 512) (hn : n0 + 3 ≤ 1600) (w1 : isK i1.1 ∧ i1.2.1 < 24) (w2 : isK i2.1 ∧ i2.2.1 < 24) (hm : mm < 128) (ha : a < 24) (hb : b < 24) (hal : ¬ (c_pa (s_cl S c)).length = 1 → a = zlast (c_pa (s_cl S c))) : tot (m157 F 37 (Int32.ofNat c) (b2i (decide ((c_pa (s_cl S c)).length = 1))) (Int32.ofNat mm) (Int32.ofNat a) (Int32.ofNat b) ver) h (fun _ h' => agR h h' ∧ RX h' (Zbegin S c (s_cl S c, some ([i1, i2, if (c_pa (s_cl S c)).length = 1 then (3, 0, ver, (2, 0, 100, [Int32.ofNat mm], [Int32.ofNat a, Int32.ofNat b])) else (3, zpar (c_pa (s_cl S c)), ((c_cp (s_cl S c) (zpar (c_pa (s_cl S c)))).getD (0, z0N)).1, zbehind ((c_cp (s_cl S c) (zpar (c_pa (s_cl S c)))).getD (0, z0N)).2 (Int32.ofNat a) (Int32.ofNat mm) (Int32.ofNat b))], 3))) (n0 + 3) [] c 3) := by
  have rf := o.1
  obtain ⟨s1, s2, s3, s4, s5⟩ := so
  have wf2 : wfT [i1, i2] := wfT_app (its := [i1]) (wfT_app (its := []) wfT_nil w1.1 w1.2) w2.1 w2.2
  have fin : ∀ (h1 : xv_H) (i3 : zI), agR h h1 → isK i3.1 → i3.2.1 < 24 → RX h1 S n0 ([i1, i2] ++ [i3]) c 3 → tot (b157_112 F (some 37) (Int32.ofNat c)) h1 (fun _ h' => agR h h' ∧ RX h' (Zbegin S c (s_cl S c, some ([i1, i2, i3], 3))) (n0 + 3) [] c 3) := by
    intro h1 i3 e1 k3 a3 o1
    unfold b157_112
    rw [nn_some, mb_mr]
    refine tot_bind (rF_vc o1.1) (tot_mb (r160_tot (P := [i1, i2, i3]) (sg := 3) hF hc o1 hbg (wfT_app wf2 k3 a3) (by simp) hn) (fun _ h2 q => ?_))
    exact tot_mr ⟨agR_trans e1 q.1, q.2⟩
  unfold m157 b157_0
  by_cases hl : (c_pa (s_cl S c)).length = 1
  · rw [decide_eq_true hl, if_neg (by decide), if_pos hl]
    unfold b157_4
    refine tot_bind (show m124 F 2 0 100 h = some (Wp 2 0 100, h) from r124_eq (k := 2) (l := 0) (u := 100) (by decide) (by decide) (by decide)) ?_
    refine tot_bind (show m150 F (Wp 2 0 100) 0 (Int32.ofNat mm) h = some (Wk (Wp 2 0 100) 0 mm, h) from r150_eq) ?_
    refine tot_bind (show m151 F (Wk (Wp 2 0 100) 0 mm) 1 h = some (Ws (Wk (Wp 2 0 100) 0 mm) 1, h) from r151_eq (x := 1)) ?_
    refine tot_bind (show m153 F (Ws (Wk (Wp 2 0 100) 0 mm) 1) 0 (Int32.ofNat a) h = some (Wc (Ws (Wk (Wp 2 0 100) 0 mm) 1) 0 a, h) from r153_eq) ?_
    refine tot_bind (show m153 F (Wc (Ws (Wk (Wp 2 0 100) 0 mm) 1) 0 a) 1 (Int32.ofNat b) h = some (W1 0 100 mm a b, h) from r153_eq) ?_
    rw [nn_some, mb_mr]
    have dd := dec_W1 (va := 0) (vb := 0) (vd := 0) (l := 0) (u := 100) (k0 := mm) (c0 := a) (c1 := b) (by decide) (by decide) hm (by omega) (by omega)
    refine tot_bind (rF_vc rf) (tot_mb (r156_tot (it := (3, 0, ver, (2, 0, 100, [Int32.ofNat mm], [Int32.ofNat a, Int32.ofNat b]))) o (by simp; omega) K3 (show 0 < 24 by decide) (fun _ => rfl) (fun _ => dd)) (fun _ h1 q => ?_))
    exact fin h1 _ q.1 K3 (by show 0 < 24; decide) q.2
  · rw [decide_eq_false hl, if_pos (by decide), if_neg hl]
    obtain ⟨z24, y, y1, y2, y3, y4⟩ := s5 hl
    have rc := o.2.2.2.2.2.2.2.1
    have rcy := rc.2.1 (zpar (c_pa (s_cl S c))) z24
    rw [y1] at rcy
    obtain ⟨v1, v2, v3, v4⟩ := rcy
    rw [y1]
    have ea := hal hl
    have p1 := (rc.2.2.1 (by decide)).1
    unfold b157_50
    rw [nn_some, mb_mr]
    refine tot_bind (g937 rf) (tot_bind (g938 rf) ?_)
    rw [nn_some, mb_mr]
    refine tot_bind (l73 rf hc) ?_
    rw [rd_pal rc (by decide), nn_some, mb_mr, ix24, show (2 : Int32) = Int32.ofNat 2 from rfl, i_sub (by omega) (by omega)]
    refine tot_bind (rd_par rf hc rc (by omega)) (tot_bind (g922 rf) ?_)
    rw [nn_some, mb_mr, ix24]
    refine tot_bind (l57 rf (by omega)) (tot_bind (g923 rf) ?_)
    rw [nn_some, mb_mr]
    refine tot_bind (l58 rf (by omega)) ?_
    rw [v1]
    obtain ⟨G, g1, g2⟩ := r158_tot (F := F) (h := h) (a := a) (b := b) (mm := mm) hF v4 v3 y2 y3 (by omega) (by omega) hm (by rw [ea]; exact y4)
    refine tot_bind g1 (tot_bind (rF_vc rf) (tot_mb (r156_tot (it := (3, zpar (c_pa (s_cl S c)), y.1, zbehind y.2 (Int32.ofNat a) (Int32.ofNat mm) (Int32.ofNat b))) o (by simp; omega) K3 z24 (fun _ => rfl) (fun _ => g2)) (fun _ h1 q => ?_)))
    exact fin h1 _ q.1 K3 z24 q.2
theorem mid_eq (o : decN n va vb vd N) (l3 : N.2.2.2.1.length = 3) : zmid N = Int32.ofNat (zkey n 1) := o.2.2.2.2.1 1 (by omega)
/-- the second half of a split: addresses, items -/
theorem spl_half {l1 l2 : Int64} {a1 b1 d1 a2 b2 d2 : Int32} {x : Int32 × zN} (hF : 1000 ≤ F) (hc : c < 2) (o : RX h S n0 [] c 3) (so : splOK (s_cl S c)) (hbg : s_bg S < 512) (hn : n0 + 3 ≤ 1600) {mm : Nat} (hm : mm < 128) (em : zmid x.2 = Int32.ofNat mm) (dl : decN l1 a1 b1 d1 (zleft x.2)) (dr : decN l2 a2 b2 d2 (zright x.2)) : tot (mb (if (c_pa (s_cl S c)).length = 1 then m155 F 37 (Int32.ofNat c) else mb (vc 9 37) fun _ => m145 F 37 (Int32.ofNat c)) fun aa => mb (vc 9 37) fun _ => mb (m155 F 37 (Int32.ofNat c)) fun bb => mb (vc 9 37) fun _ => mb (m156 F 37 (if (c_pa (s_cl S c)).length = 1 then 4 else 3) aa x.1 l1 a1 b1 d1) fun _ => mb (vc 9 37) fun _ => mb (m156 F 37 4 bb 0 l2 a2 b2 d2) fun _ => mb (vc 9 37) fun _ => mb (m157 F 37 (Int32.ofNat c) (b2i (decide ((c_pa (s_cl S c)).length = 1))) (Int32.ofNat mm) aa bb x.1) fun _ => mr ()) h (fun _ h' => agR h h' ∧ RX h' (Zbegin S c (Dsplit (s_cl S c) x)) (n0 + 3) [] c 3) := by
  have rf := o.1
  have rc := o.2.2.2.2.2.2.2.1
  obtain ⟨s1, s2, s3, s4, s5⟩ := id so
  have go : ∀ (h1 : xv_H) (z1 : zC) (a : Nat) (k1 : Int32), agR h h1 → RX h1 (s_cl_ S (fset (s_cl S) c z1)) n0 [] c 3 → c_pa z1 = c_pa (s_cl S c) → c_cp z1 = c_cp (s_cl S c) → c_hi z1 < 24 → a < 24 → (k1 = 4 ∨ k1 = 3) → (¬ (c_pa (s_cl S c)).length = 1 → a = zlast (c_pa (s_cl S c))) → k1 = (if (c_pa (s_cl S c)).length = 1 then 4 else 3) → (Dsplit (s_cl S c) x = (c_hi_ z1 (znext (c_hi z1)), some ([(k1, a, if k1 = 4 then 0 else x.1, zleft x.2), (4, c_hi z1, 0, zright x.2), if (c_pa (s_cl S c)).length = 1 then (3, 0, x.1, (2, 0, 100, [Int32.ofNat mm], [Int32.ofNat a, Int32.ofNat (c_hi z1)])) else (3, zpar (c_pa (s_cl S c)), ((c_cp (s_cl S c) (zpar (c_pa (s_cl S c)))).getD (0, z0N)).1, zbehind ((c_cp (s_cl S c) (zpar (c_pa (s_cl S c)))).getD (0, z0N)).2 (Int32.ofNat a) (Int32.ofNat mm) (Int32.ofNat (c_hi z1)))], 3))) → tot (mb (vc 9 37) fun _ => mb (m155 F 37 (Int32.ofNat c)) fun bb => mb (vc 9 37) fun _ => mb (m156 F 37 k1 (Int32.ofNat a) x.1 l1 a1 b1 d1) fun _ => mb (vc 9 37) fun _ => mb (m156 F 37 4 bb 0 l2 a2 b2 d2) fun _ => mb (vc 9 37) fun _ => mb (m157 F 37 (Int32.ofNat c) (b2i (decide ((c_pa (s_cl S c)).length = 1))) (Int32.ofNat mm) (Int32.ofNat a) bb x.1) fun _ => mr ()) h1 (fun _ h' => agR h h' ∧ RX h' (Zbegin S c (Dsplit (s_cl S c) x)) (n0 + 3) [] c 3) := by
    intro h1 z1 a k1 e1 o1 epa ecp hh ha hk1 hal ek1 hD
    have rf1 := o1.1
    have rc1 := o1.2.2.2.2.2.2.2.1
    rw [s_cl_cl, fset_eq, if_pos rfl] at rc1
    refine tot_bind (rF_vc rf1) (tot_mb (r155_tot rf1 hc rc1 hh) (fun bb h2 q2 => ?_))
    obtain ⟨rfl, e2, rc2⟩ := q2
    have o2 := RX_cl hc e2 o1 rc2
    rw [s_cl_fset2] at o2
    have e12 : agR h h2 := agR_trans e1 (ag_R e2)
    have kk1 : isK k1 := by rcases hk1 with rfl | rfl; exact K4; exact K3
    refine tot_bind (rF_vc o2.1) (tot_mb (r156_tot (it := (k1, a, if k1 = 4 then 0 else x.1, zleft x.2)) o2 (by simp; omega) kk1 ha (fun q => by
      rcases hk1 with rfl | rfl
      · exact (no23 q).elim
      · rfl) (fun _ => dl)) (fun _ h3 q3 => ?_))
    obtain ⟨e3, o3⟩ := q3
    refine tot_bind (rF_vc o3.1) (tot_mb (r156_tot (it := (4, c_hi z1, 0, zright x.2)) o3 (by simp; omega) K4 hh (fun q => (no23 q).elim) (fun _ => dr)) (fun _ h4 q4 => ?_))
    obtain ⟨e4, o4⟩ := q4
    have ecl : s_cl (s_cl_ S (fset (s_cl S) c (c_hi_ z1 (znext (c_hi z1))))) c = c_hi_ z1 (znext (c_hi z1)) := by rw [s_cl_cl, fset_eq, if_pos rfl]
    have spl4 : splOK (s_cl (s_cl_ S (fset (s_cl S) c (c_hi_ z1 (znext (c_hi z1))))) c) := by
      rw [ecl]
      unfold splOK
      rw [c_hi_hi, c_pa_hi, c_cp_hi, epa, ecp]
      exact ⟨znext_lt hh, s2, s3, s4, s5⟩
    refine tot_bind (rF_vc o4.1) ?_
    have fin := r157_tot (F := F) (ver := x.1) (mm := mm) (a := a) (b := c_hi z1) (i1 := (k1, a, if k1 = 4 then 0 else x.1, zleft x.2)) (i2 := (4, c_hi z1, 0, zright x.2)) hF hc o4 spl4 hbg hn ⟨kk1, ha⟩ ⟨K4, hh⟩ hm ha hh (by rw [ecl, c_pa_hi, epa]; exact hal)
    rw [ecl, c_pa_hi, c_cp_hi, epa, ecp, Zbegin_cl, ← hD] at fin
    exact tot_mb fin (fun _ h5 q5 => tot_mr ⟨agR_trans (agR_trans e12 (agR_trans e3 e4)) q5.1, q5.2⟩)
  have id0 : s_cl_ S (fset (s_cl S) c (s_cl S c)) = S := by rw [fset_id]; rfl
  by_cases hl : (c_pa (s_cl S c)).length = 1
  · rw [if_pos hl, if_pos hl]
    refine tot_mb (r155_tot rf hc rc s1) (fun aa h1 q1 => ?_)
    obtain ⟨rfl, e1, rc1⟩ := q1
    have o1 := RX_cl hc e1 o rc1
    refine go h1 (c_hi_ (s_cl S c) (znext (c_hi (s_cl S c)))) (c_hi (s_cl S c)) 4 (ag_R e1) o1 (c_pa_hi ..) (c_cp_hi ..) (by rw [c_hi_hi]; exact znext_lt s1) s1 (Or.inl rfl) (fun q => absurd hl q) (by rw [if_pos hl]) ?_
    unfold Dsplit
    rw [if_pos hl, if_pos hl, c_hi_hi, c_hi_hi2, em, if_pos rfl]
  · rw [if_neg hl, if_neg hl]
    refine tot_mb (Q1 := fun r h' => r = Int32.ofNat (zlast (c_pa (s_cl S c))) ∧ h' = h) (tot_bind (rF_vc rf) (tot_eq (r145_eq rf hc rc s2) ⟨rfl, rfl⟩)) (fun aa h1 q1 => ?_)
    obtain ⟨rfl, rfl⟩ := q1
    obtain ⟨z24, y, y1, y2, y3, y4⟩ := s5 hl
    refine go h1 (s_cl S c) (zlast (c_pa (s_cl S c))) 3 (ag_R (K := fun _ _ => False) ag_refl) (by rw [id0]; exact o) rfl rfl s1 s3 (Or.inr rfl) (fun _ => rfl) (by rw [if_neg hl]) ?_
    unfold Dsplit
    rw [if_neg hl, if_neg hl, y1, em, if_neg (by decide)]
    rfl
end RSPL
