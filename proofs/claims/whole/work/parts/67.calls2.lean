/-! The calls of the class: work, resend, crash, restart. -/
section CALL2
variable {h h1 h2 : xv_H} {F f x y c t m n K bg B : Nat} {T : zT} {S : zS} {z : zC} {D : zD} {i a b v jb : Int32}
/-- a client that may begin work -/
def mayW (S : zS) (i a b : Int32) : Prop := (0 ≤ i ∧ i < 2) ∧ (0 ≤ a ∧ a < 100) ∧ (0 ≤ b ∧ b < 100) ∧ a ≤ b ∧ s_dn S (3 + i.toNatClampNeg) = false ∧ ¬ c_st (s_cl S i.toNatClampNeg) = 1
def Xwork (jb i a b v : Int32) (S : zS) : Int32 × zS := if (0 ≤ i ∧ i < 2) ∧ (0 ≤ a ∧ a < 100) ∧ (0 ≤ b ∧ b < 100) ∧ a ≤ b ∧ s_dn S (3 + i.toNatClampNeg) = false ∧ ¬ c_st (s_cl S i.toNatClampNeg) = 1 then (1, Zwork S i.toNatClampNeg jb a b v) else (0, S)
theorem c10_tot (hF : 1000 ≤ F) (hj : isJ jb) (o : CR h S T) (w : wS S) (hbg : s_bg S < 512) (g : hb 400 h) : tot (m10 F 0 i (some (xv_SB + 2 + jb.toNatClampNeg)) a b v) h (fun r h' => r = (Xwork jb i a b v S).1 ∧ (∃ T', CR h' (Xwork jb i a b v S).2 T') ∧ gw 100 h h') := by
  obtain ⟨z0, z1, z2, z3, z4, zv⟩ := cr_0 o
  have no : ∀ (_ : ¬ ((0 ≤ i ∧ i < 2) ∧ (0 ≤ a ∧ a < 100) ∧ (0 ≤ b ∧ b < 100) ∧ a ≤ b ∧ s_dn S (3 + i.toNatClampNeg) = false ∧ ¬ c_st (s_cl S i.toNatClampNeg) = 1)), tot (mb (bz (0 : Int32)) fun _ => mr (0 : Int32)) h (fun r h' => r = (Xwork jb i a b v S).1 ∧ (∃ T', CR h' (Xwork jb i a b v S).2 T') ∧ gw 100 h h') := by
    intro q
    unfold Xwork
    rw [if_neg q]
    exact tot_bind bz_0 (tot_mr ⟨rfl, ⟨T, o⟩, gw_le gw_refl (by decide)⟩)
  unfold m10 b10_0
  refine tot_bind c11_eq ?_
  by_cases q1 : 0 ≤ i ∧ i < 2
  · rw [decide_eq_true q1, if_neg (by decide)]
    unfold b10_7
    refine tot_bind c12_eq ?_
    by_cases q2 : 0 ≤ a ∧ a < 100
    · rw [decide_eq_true q2, if_neg (by decide)]
      unfold b10_14
      refine tot_bind c12_eq ?_
      by_cases q3 : 0 ≤ b ∧ b < 100
      · rw [decide_eq_true q3, if_neg (by decide)]
        unfold b10_22
        by_cases q4 : a ≤ b
        · rw [if_pos q4]
          obtain ⟨hc, ei⟩ := i_nat_lt (n := 2) (by decide) q1
          generalize hcc : i.toNatClampNeg = c at *
          unfold b10_30
          rw [nn_some, mb_mr]
          refine tot_bind z1 ?_
          rw [nn_some, mb_mr, ei]
          refine tot_bind (cr_cli o hc) ?_
          rw [← ei]
          obtain ⟨ek, ak, k1, k2, k3, k4, k5⟩ := o.2.2.1 c hc
          rw [nn_some, mb_mr]
          refine tot_bind (by rw [ok_gi (cs_lB k1), k3]) ?_
          cases hd : s_dn S (3 + c)
          · rw [if_neg (by decide)]
            unfold b10_46
            rw [nn_some, mb_mr]
            refine tot_bind (cs_102 k1) ?_
            rw [nn_some, mb_mr]
            refine tot_bind (cs_207 k1) ?_
            by_cases q6 : c_st (s_cl S c) = 1
            · rw [if_neg (fun z => z q6)]
              exact no (fun q => q.2.2.2.2.2 q6)
            · rw [if_pos q6]
              unfold b10_60
              have eX : Xwork jb i a b v S = (1, Zwork S c jb a b v) := by
                unfold Xwork
                rw [if_pos ⟨q1, q2, q3, q4, by rw [hcc]; exact hd, by rw [hcc]; exact q6⟩, hcc]
              rw [eX]
              have hB := isB_c hc
              obtain ⟨w1, w2, w3, w4, w5, w6, w7⟩ := id w
              have op0 : c_op (s_cl S c) = 0 := by
                apply Classical.byContradiction
                intro q
                exact q6 (w6 c hc q).1
              rw [nn_some, mb_mr]
              refine tot_bind (cs_102 k1) ?_
              rw [nn_some, mb_mr]
              refine tot_bind (ok_vc (cs_lJ k1)) (tot_mb (c13_tot (jb := jb) hB k1) (fun _ h1 r1 => ?_))
              obtain ⟨E1, o1⟩ := r1
              refine tot_bind (ok_pr (cs_lB o1)) ?_
              have o2 := cs_step hB (some (xv_SB + 15)) o1
              have E2 : ext 0 (XfC (23 + 6 * c)) (XaC (23 + 6 * c)) h (Ufr h1 109 (23 + 6 * c) (some (xv_SB + 15))) := ext_frS E1 (Or.inl (Or.inl ⟨rfl, by decide⟩))
              generalize Ufr h1 109 (23 + 6 * c) (some (xv_SB + 15)) = h2 at *
              have ez : c_fu_ (c_st_ (c_wa_ (c_up_ (c_fr_ (c_jb_ (s_cl S c) jb) a) b) v) 1) 10 = c_wa_ (c_up_ (c_fr_ (c_fu_ (c_st_ (c_jb_ (s_cl S c) jb) 1) 10) a) b) v := (rfl)
              rw [ez] at o2
              have hY : okY (c_wa_ (c_up_ (c_fr_ (c_fu_ (c_st_ (c_jb_ (s_cl S c) jb) 1) 10) a) b) v) := by
                refine ⟨?_, ?_, ?_⟩
                · rw [c_jb_wa, c_jb_up, c_jb_fr, c_jb_fu, c_jb_st, c_jb_jb]; exact hj
                · rw [c_hi_wa, c_hi_up, c_hi_fr, c_hi_fu, c_hi_st, c_hi_jb]; exact (w7 c hc).1
                · rw [c_cp_wa, c_cp_up, c_cp_fr, c_cp_fu, c_cp_st, c_cp_jb]; exact (w7 c hc).2
              refine tot_bind (ok_vc (cs_lB o2)) (tot_mb (adv_start hB hF hY (hb_ext (K := 0) E2 (hb_le g (by decide))) o2) (fun _ h3 r3 => ?_))
              obtain ⟨e', a', d', E3, oc, od⟩ := AD_tr E2 r3
              have l0 := lv_ext E3 o.1.1.1
              rw [nn_some, mb_mr]
              refine tot_bind (ok_vc l0) (tot_mb (c50_tot hF hc o w1 (wS_ms w) op0 ?_ hbg (hb_le g (by decide)) E3 oc od) (fun _ h4 r4 => ?_))
              · rw [Dstart_op, c_op_wa, c_op_up, c_op_fr, c_op_fu, c_op_st, c_op_jb]; exact op0
              · obtain ⟨T', r4, G4⟩ := r4
                exact tot_bind bz_1 (tot_mr ⟨rfl, ⟨T', r4⟩, gw_le G4 (by decide)⟩)
          · rw [if_pos (by decide)]
            exact no (fun q => by have := q.2.2.2.2.1; rw [hd] at this; cases this)
        · rw [if_neg q4]
          exact no (fun q => q4 q.2.2.2.1)
      · rw [decide_eq_false q3, if_pos (by decide)]
        exact no (fun q => q3 q.2.2.1)
    · rw [decide_eq_false q2, if_pos (by decide)]
      exact no (fun q => q2 q.2.1)
  · rw [decide_eq_false q1, if_pos (by decide)]
    exact no (fun q => q1 q.1)
theorem Xwork_01 : (Xwork jb i a b v S).1 = 0 ∨ (Xwork jb i a b v S).1 = 1 := by
  unfold Xwork
  split
  · exact Or.inr rfl
  · exact Or.inl rfl
theorem c9_tot (hF : 1000 ≤ F) (o : CR h S T) (w : wS S) (hbg : s_bg S < 512) (g : hb 400 h) : tot (m9 F 0 i a) h (fun r h' => r = (Xwork 1 i a a 0 S).1 ∧ (∃ T', CR h' (Xwork 1 i a a 0 S).2 T') ∧ gw 100 h h') := by
  unfold m9 b9_0
  rw [nn_some, mb_mr]
  refine tot_bind (cr_0 o).2.2.2.2.2 (tot_mb (c10_tot (jb := 1) hF (Or.inl rfl) o w hbg g) (fun r h1 q => ?_))
  exact tot_bind (ok_bz (by rw [q.1]; exact Xwork_01)) (tot_mr q)
theorem c63_tot (hF : 1000 ≤ F) (o : CR h S T) (w : wS S) (hbg : s_bg S < 512) (g : hb 400 h) : tot (m63 F 0 i a v) h (fun r h' => r = (Xwork 2 i a a v S).1 ∧ (∃ T', CR h' (Xwork 2 i a a v S).2 T') ∧ gw 100 h h') := by
  unfold m63 b63_0
  rw [nn_some, mb_mr]
  refine tot_bind (cr_0 o).2.2.2.2.2 (tot_mb (c10_tot (jb := 2) hF (Or.inr (Or.inl rfl)) o w hbg g) (fun r h1 q => ?_))
  exact tot_bind (ok_bz (by rw [q.1]; exact Xwork_01)) (tot_mr q)
theorem c64_tot (hF : 1000 ≤ F) (o : CR h S T) (w : wS S) (hbg : s_bg S < 512) (g : hb 400 h) : tot (m64 F 0 i a) h (fun r h' => r = (Xwork 3 i a a 0 S).1 ∧ (∃ T', CR h' (Xwork 3 i a a 0 S).2 T') ∧ gw 100 h h') := by
  unfold m64 b64_0
  rw [nn_some, mb_mr]
  refine tot_bind (cr_0 o).2.2.2.2.2 (tot_mb (c10_tot (jb := 3) hF (Or.inr (Or.inr (Or.inl rfl))) o w hbg g) (fun r h1 q => ?_))
  exact tot_bind (ok_bz (by rw [q.1]; exact Xwork_01)) (tot_mr q)
theorem c65_tot (hF : 1000 ≤ F) (o : CR h S T) (w : wS S) (hbg : s_bg S < 512) (g : hb 400 h) : tot (m65 F 0 i a b) h (fun r h' => r = (Xwork 4 i a b 0 S).1 ∧ (∃ T', CR h' (Xwork 4 i a b 0 S).2 T') ∧ gw 100 h h') := by
  unfold m65 b65_0
  rw [nn_some, mb_mr]
  refine tot_bind (cr_0 o).2.2.2.2.2 (tot_mb (c10_tot (jb := 4) hF (Or.inr (Or.inr (Or.inr rfl))) o w hbg g) (fun r h1 q => ?_))
  exact tot_bind (ok_bz (by rw [q.1]; exact Xwork_01)) (tot_mr q)
/-- resend -/
def Xresend (i : Int32) (S : zS) : Int32 × zS := if (0 ≤ i ∧ i < 2) ∧ ¬ c_op (s_cl S i.toNatClampNeg) = 0 then (cnt3 (fun p => tp (s_ti S (c_op (s_cl S i.toNatClampNeg))) p && !(c_an (s_cl S i.toNatClampNeg) p)), Zresend S i.toNatClampNeg) else (-1, S)
theorem c99_tot (hF : 1000 ≤ F) (o : CR h S T) (w : wS S) (g : hb 400 h) : tot (m99 F 0 i) h (fun r h' => r = (Xresend i S).1 ∧ (∃ T', CR h' (Xresend i S).2 T') ∧ gw 100 h h') := by
  obtain ⟨z0, z1, z2, z3, z4, zv⟩ := cr_0 o
  unfold m99 b99_0 Xresend
  refine tot_bind c11_eq ?_
  by_cases q1 : 0 ≤ i ∧ i < 2
  · rw [decide_eq_true q1, if_neg (by decide)]
    obtain ⟨hc, ei⟩ := i_nat_lt (n := 2) (by decide) q1
    generalize i.toNatClampNeg = c at *
    subst ei
    obtain ⟨ek, ak, k1, k2, k3, k4, k5⟩ := o.2.2.1 c hc
    unfold b99_7
    rw [nn_some, mb_mr]
    refine tot_bind z1 ?_
    rw [nn_some, mb_mr]
    refine tot_bind (cr_cli o hc) ?_
    rw [nn_some, mb_mr]
    refine tot_bind (by rw [ok_gr (cs_lB k1), k4]) ?_
    by_cases q0 : c_op (s_cl S c) = 0
    · rw [if_pos q0, if_neg (fun z => z rfl), if_neg (fun z => z.2 q0)]
      exact tot_mr ⟨rfl, ⟨T, o⟩, gw_le gw_refl (by decide)⟩
    · rw [if_neg q0, if_pos (by simp), if_pos ⟨q1, q0⟩]
      rw [if_neg q0] at k4
      unfold b99_21
      rw [nn_some, mb_mr]
      refine tot_bind z1 ?_
      rw [nn_some, mb_mr]
      refine tot_bind (cr_cli o hc) ?_
      rw [nn_some, mb_mr]
      refine tot_bind (by rw [ok_gr (cs_lB k1), k4]) (tot_bind zv (tot_mb (c51_tot hF (by omega) (w.1 c hc) o w.1 (hb_le g (by decide)) (k5 q0)) (fun r h1 q => ?_)))
      exact tot_mr ⟨q.1, ⟨T, q.2.2⟩, gw_le (gw_Q q.2.1) (by decide)⟩
  · rw [decide_eq_false q1, if_pos (by decide), if_neg (fun z => q1 z.1)]
    exact tot_mr ⟨rfl, ⟨T, o⟩, gw_le gw_refl (by decide)⟩
end CALL2
