/-! The reference: begin. -/
def KB (t c a i : Nat) : Prop := (a = 37 ∧ i = 904) ∨ ((a = 42 ∨ a = 43 ∨ a = 44) ∧ i = t) ∨ ((a = 69 ∨ a = 70 ∨ a = 71) ∧ i = c)
section RBEG3
variable {h h1 h2 : xv_H} {n c d L L2 t m p i F f : Nat} {S : zS} {P : List zI} {z z2 : zC} {x : Int32} {it : zI} {sg : Int32}
theorem r160_tot (hF : 1000 ≤ F) (hc : c < 2) (o : RX h S n P c L) (hbg : s_bg S < 512) (wf : wfT P) (hP6 : P.length ≤ 6) (hn : n + P.length ≤ 1600) : tot (m160 F 37 (Int32.ofNat c) (Int32.ofNat P.length) sg) h (fun _ h' => agR h h' ∧ RX h' (Zbegin S c (s_cl S c, some (P, sg))) (n + P.length) [] c L) := by
  have rf := o.1
  obtain ⟨q1, q2, q3, q4, q5, q6, q7, q8, q9⟩ := o
  obtain ⟨r1, r2⟩ := q4
  obtain ⟨p1, p2⟩ := q5
  unfold m160 b160_0
  rw [nn_some, mb_mr]
  refine tot_bind (g904 rf) (tot_bind (p904 rf) ?_)
  rw [r1, i_add1]
  generalize hT : s_bg S + 1 = T at *
  have a1 : ag (fun a i => ¬ KB T c a i) h (Ufi h 904 37 (Int32.ofNat T)) := ag_fi (by decide) (fun r => r (by unfold KB; omega))
  have f1 : Hfi (Ufi h 904 37 (Int32.ofNat T)) 904 37 = Int32.ofNat T := by rw [Hfi_Ufi, if_pos ⟨rfl, rfl⟩]
  generalize Ufi h 904 37 (Int32.ofNat T) = h1 at *
  have rf1 := ag_rF a1 rf
  refine tot_bind (g905 rf1) (tot_bind (g904 rf1) ?_)
  rw [f1, nn_some, mb_mr]
  refine tot_bind (s42 rf1 (by omega)) ?_
  have a2 : ag (fun a i => ¬ KB T c a i) h (Uei h1 42 T (Int32.ofNat c)) := ag_trans a1 (ag_ei (by decide) (fun r => r (by unfold KB; omega)))
  have f2 : Hfi (Uei h1 42 T (Int32.ofNat c)) 904 37 = Int32.ofNat T := by rw [Hfi_Uei]; exact f1
  have w2 : Hei (Uei h1 42 T (Int32.ofNat c)) 42 T = Int32.ofNat c := by rw [Hei_Uei, if_pos ⟨rfl, rfl⟩]
  generalize Uei h1 42 T (Int32.ofNat c) = h2 at *
  have rf2 := ag_rF a2 rf
  have f909 : Hfi h2 909 37 = Int32.ofNat (n + P.length) := by rw [ag_f a2 (by unfold KB; omega)]; exact p1
  refine tot_bind (g906 rf2) (tot_bind (g904 rf2) (tot_bind (g909 rf2) ?_))
  rw [f2, f909, nn_some, mb_mr, i_sub (by omega) (by omega), show n + P.length - P.length = n by omega]
  refine tot_bind (s43 rf2 (by omega)) ?_
  have a3 : ag (fun a i => ¬ KB T c a i) h (Uei h2 43 T (Int32.ofNat n)) := ag_trans a2 (ag_ei (by decide) (fun r => r (by unfold KB; omega)))
  have f3 : Hfi (Uei h2 43 T (Int32.ofNat n)) 904 37 = Int32.ofNat T := by rw [Hfi_Uei]; exact f2
  have w3 : Hei (Uei h2 43 T (Int32.ofNat n)) 42 T = Int32.ofNat c ∧ Hei (Uei h2 43 T (Int32.ofNat n)) 43 T = Int32.ofNat n := ⟨by rw [Hei_Uei, if_neg (by omega)]; exact w2, by rw [Hei_Uei, if_pos ⟨rfl, rfl⟩]⟩
  generalize Uei h2 43 T (Int32.ofNat n) = h3 at *
  have rf3 := ag_rF a3 rf
  refine tot_bind (g907 rf3) (tot_bind (g904 rf3) ?_)
  rw [f3, nn_some, mb_mr]
  refine tot_bind (s44 rf3 (by omega)) ?_
  have a4 : ag (fun a i => ¬ KB T c a i) h (Uei h3 44 T (Int32.ofNat P.length)) := ag_trans a3 (ag_ei (by decide) (fun r => r (by unfold KB; omega)))
  have f4 : Hfi (Uei h3 44 T (Int32.ofNat P.length)) 904 37 = Int32.ofNat T := by rw [Hfi_Uei]; exact f3
  have w4 : Hei (Uei h3 44 T (Int32.ofNat P.length)) 42 T = Int32.ofNat c ∧ Hei (Uei h3 44 T (Int32.ofNat P.length)) 43 T = Int32.ofNat n ∧ Hei (Uei h3 44 T (Int32.ofNat P.length)) 44 T = Int32.ofNat P.length := ⟨by rw [Hei_Uei, if_neg (by omega)]; exact w3.1, by rw [Hei_Uei, if_neg (by omega)]; exact w3.2, by rw [Hei_Uei, if_pos ⟨rfl, rfl⟩]⟩
  generalize Uei h3 44 T (Int32.ofNat P.length) = h4 at *
  have rf4 := ag_rF a4 rf
  refine tot_bind (g934 rf4) (tot_bind (g904 rf4) ?_)
  rw [f4, nn_some, mb_mr]
  refine tot_bind (s69 rf4 hc) ?_
  have a5 : ag (fun a i => ¬ KB T c a i) h (Uei h4 69 c (Int32.ofNat T)) := ag_trans a4 (ag_ei (by decide) (fun r => r (by unfold KB; omega)))
  have f5 : Hfi (Uei h4 69 c (Int32.ofNat T)) 904 37 = Int32.ofNat T := by rw [Hfi_Uei]; exact f4
  have w5 : (Hei (Uei h4 69 c (Int32.ofNat T)) 42 T = Int32.ofNat c ∧ Hei (Uei h4 69 c (Int32.ofNat T)) 43 T = Int32.ofNat n ∧ Hei (Uei h4 69 c (Int32.ofNat T)) 44 T = Int32.ofNat P.length) ∧ Hei (Uei h4 69 c (Int32.ofNat T)) 69 c = Int32.ofNat T := ⟨⟨by rw [Hei_Uei, if_neg (by omega)]; exact w4.1, by rw [Hei_Uei, if_neg (by omega)]; exact w4.2.1, by rw [Hei_Uei, if_neg (by omega)]; exact w4.2.2⟩, by rw [Hei_Uei, if_pos ⟨rfl, rfl⟩]⟩
  generalize Uei h4 69 c (Int32.ofNat T) = h5 at *
  have rf5 := ag_rF a5 rf
  refine tot_bind (g935 rf5) ?_
  rw [nn_some, mb_mr]
  refine tot_bind (s70 rf5 hc) ?_
  have a6 : ag (fun a i => ¬ KB T c a i) h (Uei h5 70 c 0) := ag_trans a5 (ag_ei (by decide) (fun r => r (by unfold KB; omega)))
  have f6 : Hfi (Uei h5 70 c 0) 904 37 = Int32.ofNat T := by rw [Hfi_Uei]; exact f5
  have w6 : (Hei (Uei h5 70 c 0) 42 T = Int32.ofNat c ∧ Hei (Uei h5 70 c 0) 43 T = Int32.ofNat n ∧ Hei (Uei h5 70 c 0) 44 T = Int32.ofNat P.length) ∧ Hei (Uei h5 70 c 0) 69 c = Int32.ofNat T ∧ Hei (Uei h5 70 c 0) 70 c = 0 := ⟨⟨by rw [Hei_Uei, if_neg (by omega)]; exact w5.1.1, by rw [Hei_Uei, if_neg (by omega)]; exact w5.1.2.1, by rw [Hei_Uei, if_neg (by omega)]; exact w5.1.2.2⟩, by rw [Hei_Uei, if_neg (by omega)]; exact w5.2, by rw [Hei_Uei, if_pos ⟨rfl, rfl⟩]⟩
  generalize Uei h5 70 c 0 = h6 at *
  have rf6 := ag_rF a6 rf
  refine tot_bind (g936 rf6) ?_
  rw [nn_some, mb_mr]
  refine tot_bind (s71 rf6 hc) ?_
  have a7 : ag (fun a i => ¬ KB T c a i) h (Uei h6 71 c sg) := ag_trans a6 (ag_ei (by decide) (fun r => r (by unfold KB; omega)))
  have f7 : Hfi (Uei h6 71 c sg) 904 37 = Int32.ofNat T := by rw [Hfi_Uei]; exact f6
  have w7 : (Hei (Uei h6 71 c sg) 42 T = Int32.ofNat c ∧ Hei (Uei h6 71 c sg) 43 T = Int32.ofNat n ∧ Hei (Uei h6 71 c sg) 44 T = Int32.ofNat P.length) ∧ Hei (Uei h6 71 c sg) 69 c = Int32.ofNat T ∧ Hei (Uei h6 71 c sg) 70 c = 0 ∧ Hei (Uei h6 71 c sg) 71 c = sg := ⟨⟨by rw [Hei_Uei, if_neg (by omega)]; exact w6.1.1, by rw [Hei_Uei, if_neg (by omega)]; exact w6.1.2.1, by rw [Hei_Uei, if_neg (by omega)]; exact w6.1.2.2⟩, by rw [Hei_Uei, if_neg (by omega)]; exact w6.2.1, by rw [Hei_Uei, if_neg (by omega)]; exact w6.2.2, by rw [Hei_Uei, if_pos ⟨rfl, rfl⟩]⟩
  generalize Uei h6 71 c sg = h7 at *
  have rf7 := ag_rF a7 rf
  have e_dn : s_dn (Zbeg0 S c (s_cl S c) P sg) = s_dn S := (rfl)
  have e_ce : s_ce (Zbeg0 S c (s_cl S c) P sg) = s_ce S := (rfl)
  have e_rm : s_rm (Zbeg0 S c (s_cl S c) P sg) = s_rm S := (rfl)
  have e_ms : s_ms (Zbeg0 S c (s_cl S c) P sg) = s_ms S := (rfl)
  have e_bg : s_bg (Zbeg0 S c (s_cl S c) P sg) = T := by rw [← hT]; rfl
  have e_tc : s_tc (Zbeg0 S c (s_cl S c) P sg) = fset (s_tc S) T c := by rw [← hT]; rfl
  have e_ti : s_ti (Zbeg0 S c (s_cl S c) P sg) = fset (s_ti S) T P := by rw [← hT]; rfl
  have e_cl : s_cl (Zbeg0 S c (s_cl S c) P sg) = fset (s_cl S) c (c_sg_ (c_an_ (c_op_ (s_cl S c) T) (fun _ => false)) sg) := by rw [← hT]; rfl
  have R7 : RX h7 (Zbeg0 S c (s_cl S c) P sg) (n + P.length) [] c L := by
    refine ⟨rf7, ?_, ?_, ?_, ⟨?_, fun j hj => by cases hj⟩, ?_, ?_, ?_, ?_⟩
    · rw [e_dn]; exact rG_c a7 (fun a i r => by unfold KG at r; unfold KB; omega) q2
    · rw [e_ce]; exact rN_c a7 (fun a i r => by unfold KN at r; unfold KB; omega) q3
    · rw [e_bg, e_tc, e_ti]
      refine ⟨f7, fun s s1 s2 => ?_⟩
      by_cases e : s = T
      · subst e
        rw [fset_eq, if_pos rfl, fset_eq, if_pos rfl]
        refine ⟨w7.1.1, w7.1.2.2, n, w7.1.2.1, Nat.le_refl _, fun j hj => ?_⟩
        exact okIt_c a7 (fun a a1 a2 => by unfold KB; omega) ⟨by unfold KB; omega, by unfold KB; omega, by unfold KB; omega⟩ (p2 j hj)
      · rw [fset_eq, if_neg e, fset_eq, if_neg e]
        obtain ⟨z1, z2, f0, z3, z4, z5⟩ := r2 s s1 (by omega)
        refine ⟨by rw [(ag_e a7 (by unfold KB; omega)).1]; exact z1, by rw [(ag_e a7 (by unfold KB; omega)).1]; exact z2, f0, by rw [(ag_e a7 (by unfold KB; omega)).1]; exact z3, by omega, fun j hj => ?_⟩
        exact okIt_c a7 (fun a a1 a2 => by unfold KB; omega) ⟨by unfold KB; omega, by unfold KB; omega, by unfold KB; omega⟩ (z5 j hj)
    · show Hfi h7 909 37 = Int32.ofNat (n + P.length + 0)
      rw [ag_f a7 (by unfold KB; omega), Nat.add_zero]; exact p1
    · rw [e_rm]; exact rR_c a7 (fun a i r => by unfold KR at r; unfold KB; omega) q6
    · rw [e_ms]; exact rQ_c a7 (fun a i r => by unfold KQ at r; unfold KB; omega) q7
    · rw [e_cl, fset_eq, if_pos rfl]
      obtain ⟨y1, y2, y3, y4⟩ := q8
      refine ⟨fun A x hx => ?_, fun a ha => ?_, fun hL => ?_, fun hL => ?_⟩
      · by_cases b0 : A = 69
        · subst b0
          unfold rv at hx
          simp [c_op_sg, c_op_an, c_op_op] at hx
          rw [← hx]; exact w7.2.1
        · by_cases b1 : A = 70
          · subst b1
            unfold rv at hx
            simp [c_op_sg, c_op_an, c_op_op, c_an_sg, c_an_an, show ¬ T = 0 by omega] at hx
            rw [← hx, w7.2.2.1]; rfl
          · by_cases b2 : A = 71
            · subst b2
              unfold rv at hx
              simp [c_op_sg, c_op_an, c_op_op, c_sg_sg, show ¬ T = 0 by omega] at hx
              rw [← hx]; exact w7.2.2.2
            · have rr := rv_row hx
              rw [(ag_e a7 (by unfold KB; omega)).1]
              refine y1 A x ?_
              rw [← hx]
              unfold rv
              simp only [c_hi_sg, c_st_sg, c_jb_sg, c_fu_sg, c_go_sg, c_fr_sg, c_up_sg, c_wa_sg, c_re_sg, c_fo_sg, c_op_sg, c_an_sg, c_sg_sg, c_pa_sg, c_lf_sg, c_hi_an, c_st_an, c_jb_an, c_fu_an, c_go_an, c_fr_an, c_up_an, c_wa_an, c_re_an, c_fo_an, c_op_an, c_an_an, c_pa_an, c_lf_an, c_hi_op, c_st_op, c_jb_op, c_fu_op, c_go_op, c_fr_op, c_up_op, c_wa_op, c_re_op, c_fo_op, c_op_op, c_pa_op, c_lf_op, b0, b1, b2, if_false]
      · rw [c_cp_sg, c_cp_an, c_cp_op]
        exact rcp_c a7 (by unfold KB; omega) (by unfold KB; omega) (y2 a ha)
      · rw [c_pa_sg, c_pa_an, c_pa_op]
        refine ⟨(y3 hL).1, fun j hj => ?_⟩
        rw [(ag_e a7 (by unfold KB; omega)).1]; exact (y3 hL).2 j hj
      · rw [c_lf_sg, c_lf_an, c_lf_op]
        refine ⟨(y4 hL).1, fun j hj => ?_⟩
        rw [(ag_e a7 (by unfold KB; omega)).1, (ag_e a7 (by unfold KB; omega)).1]; exact (y4 hL).2 j hj
    · intro d hd hn
      rw [e_cl, fset_eq, if_neg hn]
      exact rC_c a7 (fun a i r => by unfold KC at r; unfold KB; omega) (q9 d hd hn)
  have hti : s_ti (Zbeg0 S c (s_cl S c) P sg) T = P := by rw [e_ti, fset_eq, if_pos rfl]
  have hcl : s_cl (Zbeg0 S c (s_cl S c) P sg) c = c_sg_ (c_an_ (c_op_ (s_cl S c) T) (fun _ => false)) sg := by rw [e_cl, fset_eq, if_pos rfl]
  refine tot_bind (rF_vc rf7) (tot_mb (r161_tot (t := T) hF hc (by rw [hcl, c_op_sg, c_op_an, c_op_op]) (by omega) (by rw [e_bg]; exact Nat.le_refl _) (by rw [e_bg]; omega) (by rw [hti]; exact wf) (by rw [hti]; exact hP6) hn R7) (fun _ h8 q8' => ?_))
  obtain ⟨_, e8, R8⟩ := q8'
  refine tot_mr ⟨agR_trans (ag_R a7) e8, ?_⟩
  rw [hti, hcl, c_an_sg, c_an_an, fun_not_false, e_ms] at R8
  have eZ : Zbegin S c (s_cl S c, some (P, sg)) = s_ms_ (Zbeg0 S c (s_cl S c) P sg) (snd3 (tp P) 1 T (s_ms S)) := by rw [← hT]; rfl
  rw [eZ]
  exact R8
end RBEG3
