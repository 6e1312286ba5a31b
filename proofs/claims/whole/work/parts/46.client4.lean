/-! A client's methods: collecting a leaf. -/
section CL4
variable {h h0 h1 h2 : xv_H} {B c F f x K x0 : Nat} {z : zC} {e s a d w : Option Nat} {T : Option Nat × Option Nat × Option Nat × Option Nat} {y : Int32} {v : Int32 × zN} {its : List zI} {i : zI} {an : Nat → Bool}
theorem c_fore_id (z : zC) : c_re_ (c_fo_ z (c_fo z)) (c_re z) = z := (rfl)
/-- Job.collect -/
theorem c20_tot {p : Nat} (hB : isB B) (hF : 1000 ≤ F) (hp : p < 24) (h60 : v.2.2.2.2.1.length < 60) (hlen : v.2.2.2.2.1.length = v.2.2.2.2.2.length) (h6 : (c_lf z).length < 6) (o : cs h B c z (e, s, a, d)) (oc : okCell h x0 v) : tot (m20 F (B + 2) (Int32.ofNat p) (some x0)) h (fun _ h' => ext 0 (XfC B) (XaC B) h h' ∧ cs h' B c (c_re_ (c_fo_ (c_lf_ z (c_lf z ++ [(p, v.1)])) (zsum (c_fr z) (c_up z) v.2.2.2.2.1 v.2.2.2.2.2 (c_fo z, c_re z)).1) (zsum (c_fr z) (c_up z) v.2.2.2.2.1 v.2.2.2.2.2 (c_fo z, c_re z)).2) (e, s, a, d)) := by
  have hl := cs_lt o
  unfold m20 b20_0
  rw [nn_some, mb_mr]
  refine tot_bind (cs_200 o) (tot_bind (cs_202 o) ?_)
  rw [nn_some, mb_mr]
  refine tot_bind (ok_si (cs_lA o).1 (i_nn (by omega)) (by rw [i_nat (by omega), (cs_lA o).2]; omega)) ?_
  rw [i_nat (by omega)]
  generalize e1 : Uei h (B + 3) (c_lf z).length (Int32.ofNat p) = h1
  have E1 : ext 0 Xf0 (fun a => a = B + 3) h h1 := by rw [← e1]; exact ext_ei rfl
  refine tot_bind (gr_ext E1 (fun q => q) (cs_201 o)) (tot_bind (gi_ext E1 (fun q => q) (cs_202 o)) ?_)
  rw [nn_some, mb_mr]
  have G7 : gi 700 x0 h = some (v.1, h) := by rw [ok_gi oc.1, oc.2.1]
  refine tot_bind (gi_ext E1 (fun q => q) G7) ?_
  rw [nn_some, mb_mr]
  refine tot_bind (ok_si (lv_ext E1 (cs_lV o).1) (i_nn (by omega)) (by rw [i_nat (by omega), (E1.2.1 _ (cs_lV o).1.1).2, (cs_lV o).2]; omega)) ?_
  rw [i_nat (by omega)]
  generalize e2 : Uei h1 (B + 4) (c_lf z).length v.1 = h2
  have E2 : ext 0 Xf0 (fun a => a = B + 4) h1 h2 := by rw [← e2]; exact ext_ei rfl
  refine tot_bind (gi_ext E2 (fun q => q) (gi_ext E1 (fun q => q) (cs_202 o))) ?_
  refine tot_bind (ok_pi (lv_ext E2 (lv_ext E1 (cs_lJ o)))) ?_
  rw [i_add1]
  have o3 := cs_lfS (p := p) (y := v.1) hB hp h6 o
  rw [e1, e2] at o3
  generalize e3 : Ufi h2 202 (B + 2) (Int32.ofNat ((c_lf z).length + 1)) = h3 at *
  have E3 : ext 0 (XfC B) (XaC B) h h3 := by
    rw [← e3, ← e2, ← e1]
    exact ext_fiS (ext_eiS (ext_ei (Or.inr (Or.inl rfl))) (Or.inl (Or.inr (Or.inr (Or.inl rfl))))) (Or.inl (Or.inr ⟨rfl, by decide⟩))
  refine c20_loop (z := c_lf_ z (c_lf z ++ [(p, v.1)])) hB h60 hlen F 0 (c_fo z, c_re z) h3 (Nat.zero_le _) (by omega) (by exact o3) (okCell_c E3 (calmC hB) oc) (fun h' r' hr e' o' => ⟨ext_trans (k1 := 0) (k2 := 0) E3 e', ?_⟩)
  rw [hr, List.drop_zero, List.drop_zero, c_fr_lf, c_up_lf] at o'
  exact o'
/-- collectLeaf -/
theorem c17_tot (hB : isB B) (hF : 1000 ≤ F) (h60 : v.2.2.2.2.1.length < 60) (hlen : v.2.2.2.2.1.length = v.2.2.2.2.2.length) (g : hb 60 h) (o : cs h B c z (some x0, some (xv_SB + 16), a, none)) (oc : okCell h x0 v) : tot (m17 F B) h (fun _ h' => ∃ s' a' d' z', ext 10 (XfC B) (XaC B) h h' ∧ cs h' B c z' (some x0, some (xv_SB + s'), a', d') ∧
   ((s' = 17 ∧ d' = none ∧ a' = a ∧ Dcollect z v = Dwalk z' ∧ c_jb z' = c_jb z ∧ c_cp z' = c_cp z ∧ c_hi z' = c_hi z ∧ c_pa z' = [0]) ∨ ((s' = 16 ∨ s' = 11) ∧ Dcollect z v = (z', (Dcollect z v).2) ∧ dft h h' c a' d' (Dcollect z v).2))) := by
  have h6' : (c_lf z).length ≤ 6 := o.1.2.2.2.1.1
  unfold m17 b17_0
  rw [nn_some, mb_mr]
  refine tot_bind (cs_102 o) ?_
  rw [nn_some, mb_mr]
  refine tot_bind (cs_202 o) ?_
  have lt6 : (Int32.ofNat (c_lf z).length < 6) ↔ (c_lf z).length < 6 := i_lt (b := 6) (by omega) (by decide)
  refine tot_if (fun q => ?_) (fun q => ?_)
  · have h6 := lt6.mp q
    unfold b17_17
    rw [nn_some, mb_mr]
    refine tot_bind (cs_102 o) (tot_bind (ok_vc (cs_lB o)) (tot_bind (c19_eq o) (tot_bind (cs_106 o) ?_)))
    rw [nn_some, mb_mr]
    refine tot_bind (ok_vc (cs_lJ o)) ?_
    refine tot_mb (c20_tot hB hF (zlast_lt o.1.2.2.1) h60 hlen h6 o oc) (fun _ h1 q1 => ?_)
    obtain ⟨E1, o1⟩ := q1
    have hD : Dcollect z v = (let d := c_re_ (c_fo_ (c_lf_ z (c_lf z ++ [(zlast (c_pa z), v.1)])) (zsum (c_fr z) (c_up z) v.2.2.2.2.1 v.2.2.2.2.2 (c_fo z, c_re z)).1) (zsum (c_fr z) (c_up z) v.2.2.2.2.1 v.2.2.2.2.2 (c_fo z, c_re z)).2; if v.2.2.2.1 ≤ c_up z then DwalkFor d v.2.2.2.1 else if (c_lf d).length = 1 then (Cdone d, none) else (d, some ((c_lf d).map (fun y => (2, y.1, y.2, z0N)), 2))) := by
      unfold Dcollect
      rw [if_neg (by omega)]
    generalize hz : c_re_ (c_fo_ (c_lf_ z (c_lf z ++ [(zlast (c_pa z), v.1)])) (zsum (c_fr z) (c_up z) v.2.2.2.2.1 v.2.2.2.2.2 (c_fo z, c_re z)).1) (zsum (c_fr z) (c_up z) v.2.2.2.2.1 v.2.2.2.2.2 (c_fo z, c_re z)).2 = zz at *
    have jz : c_jb zz = c_jb z ∧ c_cp zz = c_cp z ∧ c_up zz = c_up z ∧ c_hi zz = c_hi z := by rw [← hz]; simp only [c_hi_re, c_hi_fo, c_hi_lf, c_jb_re, c_jb_fo, c_jb_lf, c_cp_re, c_cp_fo, c_cp_lf, c_up_re, c_up_fo, c_up_lf, and_self]
    simp only at hD
    have oc1 := okCell_c E1 (calmC hB) oc
    obtain ⟨oe1, oe2, nb, oe3, on⟩ := oc1
    obtain ⟨kk, ii, ⟨lb, g6⟩, ⟨g0, g1, g2, g3, g4⟩, ik, ok, im1, oi⟩ := okN_d on
    have G7 : gr 701 x0 h1 = some (some nb, h1) := by rw [ok_gr oe1, oe3]
    refine tot_bind (cs_106 o1) ?_
    rw [nn_some, mb_mr]
    refine tot_bind G7 ?_
    rw [nn_some, mb_mr]
    refine tot_bind g2 (tot_bind (cs_102 o1) ?_)
    rw [nn_some, mb_mr]
    refine tot_bind (cs_205 o1) ?_
    rw [jz.2.2.1]
    refine tot_if (fun q2 => ?_) (fun q2 => ?_)
    · have n2 : ¬ v.2.2.2.1 ≤ c_up z := fun q => by rw [Int32.le_iff_toInt_le] at q; rw [Int32.lt_iff_toInt_lt] at q2; omega
      rw [if_neg n2] at hD
      have l6 : (c_lf zz).length ≤ 6 := o1.1.2.2.2.1.1
      unfold b17_69
      rw [nn_some, mb_mr]
      refine tot_bind (cs_102 o1) ?_
      rw [nn_some, mb_mr]
      refine tot_bind (cs_202 o1) ?_
      have l1 : (Int32.ofNat (c_lf zz).length = 1) ↔ (c_lf zz).length = 1 := i_eq (b := 1) (by omega) (by decide)
      refine tot_if (fun q3 => ?_) (fun q3 => ?_)
      · have q3 : ¬ (c_lf zz).length = 1 := fun q => q3 (l1.mpr q)
        rw [if_neg q3] at hD
        unfold b17_90
        rw [nn_some, mb_mr]
        refine tot_bind (ok_vc (cs_lB o1)) ?_
        refine tot_mb (c22_tot hB hF (hb_ext (r := 30) E1 (hb_le g (by decide))) o1) (fun _ h2 q4 => ?_)
        obtain ⟨a', d', E2, o2, dd⟩ := q4
        refine tot_mr ⟨16, a', d', zz, ext_trans (k1 := 0) (k2 := 10) E1 E2, o2, Or.inr ⟨Or.inl rfl, by rw [hD], ?_⟩⟩
        rw [hD]
        obtain ⟨x, p1, p2, p3⟩ := dd
        exact ⟨x, p1, Nat.le_trans E1.1.1 p2, p3⟩
      · have q3 : (c_lf zz).length = 1 := l1.mp (Classical.not_not.mp q3)
        rw [if_pos q3] at hD
        unfold b17_80
        rw [nn_some, mb_mr]
        refine tot_bind (cs_102 o1) ?_
        rw [nn_some, mb_mr]
        refine tot_bind (ok_vc (cs_lJ o1)) ?_
        refine tot_mb (c21_tot hB o1) (fun _ h2 q4 => ?_)
        refine tot_mr ⟨16, a, none, Cdone zz, ext_le (ext_trans (k1 := 0) (k2 := 0) E1 q4.1) (by decide), q4.2, Or.inr ⟨Or.inl rfl, by rw [hD], ?_⟩⟩
        rw [hD]; rfl
    · have n2 : v.2.2.2.1 ≤ c_up z := by rw [Int32.le_iff_toInt_le]; rw [Int32.lt_iff_toInt_lt] at q2; omega
      rw [if_pos n2] at hD
      unfold b17_52
      rw [nn_some, mb_mr]
      refine tot_bind (cs_106 o1) ?_
      rw [nn_some, mb_mr]
      refine tot_bind G7 ?_
      rw [nn_some, mb_mr]
      refine tot_bind g2 (tot_bind (ok_vc (cs_lB o1)) ?_)
      refine tot_mb (c16_tot hB o1) (fun _ h2 q4 => ?_)
      refine tot_mr ⟨17, a, none, c_pa_ (c_go_ zz v.2.2.2.1) [0], ext_le (ext_trans (k1 := 0) (k2 := 0) E1 q4.1) (by decide), q4.2, Or.inl ⟨rfl, rfl, rfl, ?_, by rw [c_jb_pa, c_jb_go]; exact jz.1, by rw [c_cp_pa, c_cp_go]; exact jz.2.1, by rw [c_hi_pa, c_hi_go]; exact jz.2.2.2, c_pa_pa _ _⟩⟩
      rw [hD, DwalkFor]
  · have q : ¬ (c_lf z).length < 6 := fun r => q (lt6.mpr r)
    have hD : Dcollect z v = (c_st_ z 4, none) := by unfold Dcollect; rw [if_pos (by omega)]
    unfold b17_12
    rw [nn_some, mb_mr]
    refine tot_bind (ok_vc (cs_lB o)) ?_
    refine tot_mb (c18_tot hB o) (fun _ h2 q4 => ?_)
    refine tot_mr ⟨11, a, none, c_st_ z 4, ext_le q4.1 (by decide), q4.2, Or.inr ⟨Or.inr rfl, by rw [hD], ?_⟩⟩
    rw [hD]; rfl
end CL4
