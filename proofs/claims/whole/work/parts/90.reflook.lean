/-! The reference: looked. -/
/-- a running client that has walked -/
def runOK (z : zC) : Prop := okW z ∧ isJ (c_jb z) ∧ (∃ f, 1 ≤ f ∧ f ≤ 10 ∧ c_fu z = Int32.ofNat f) ∧ (∀ i, i < (c_pa z).length → (c_pa z).getD i 0 < 24)
def lkOK (z : zC) (v : Int32 × zN) : Prop := pOK (c_cp z) (c_jb z == 2) (c_pa z) ∧ (∃ kk, kk < 128 ∧ c_go z = Int32.ofNat kk ∧ (¬ c_jb z = 4 → c_fr z = Int32.ofNat kk)) ∧ (c_jb z = 2 → c_re z = 0 ∧ c_fo z = false) ∧ (∀ i, i < (c_lf z).length → ((c_lf z).getD i (0, 0)).1 < 24) ∧ (¬ (c_pa z).length = 1 → ¬ zpar (c_pa z) = zlast (c_pa z)) ∧ (v.2.1 = 0 ∨ v.2.1 = 1 ∨ v.2.1 = 2) ∧ (v.2.1 = 0 → ¬ (v.2.2.1 ≤ c_go z ∧ c_go z < v.2.2.2.1)) ∧ (sle v.2.2.2.2.1 ∧ (v.2.1 = 1 → srt v.2.2.2.2.1)) ∧ (v.2.1 = 2 → 0 < v.1 ∧ (∀ i, i ∈ v.2.2.2.2.2 → 0 ≤ i ∧ 1 ≤ i.toNatClampNeg ∧ i.toNatClampNeg < 24) ∧ walkOK (fset (c_cp z) (zlast (c_pa z)) (some v)) (c_jb z == 2) ∧ (zw (fset (c_cp z) (zlast (c_pa z)) (some v)) (c_jb z == 2) (c_go z) (24 - (c_pa z).length) (c_pa z)).1.length < 24)
section RLOOK
variable {h h1 : xv_H} {F i j x p q v s a b c n0 L L2 n : Nat} {nd : Int64} {N : zN} {k va vb vd ver : Int32} {S : zS} {P : List zI} {z : zC} {D : zD}
/-- a copy is kept -/
theorem rs_cpS {vv : Int32 × zN} {a : Nat} (hc : c < 2) (o : rC h c z L) (ha : a < 24) (hv : 0 < vv.1) (k2 : vv.2.1 = 2) (od : decN nd va vb vd vv.2) : agC c h (Uel (Uei h 57 (24 * c + a) vv.1) 58 (24 * c + a) nd) ∧ rC (Uel (Uei h 57 (24 * c + a) vv.1) 58 (24 * c + a) nd) c (c_cp_ z (fset (c_cp z) a (some vv))) L := by
  have dd : decN nd 0 0 0 vv.2 := by
    obtain ⟨o1, o2, o3, o4, o5, o6⟩ := od
    refine ⟨o1, o2, o3, o4, o5, ?_⟩
    rw [if_pos k2] at o6 ⊢
    exact o6
  refine ⟨ag_trans (ag_ei (by decide) (fun q => q (by unfold KC; omega))) (ag_el (by decide) (fun q => q (by unfold KC; omega))), fun A x hx => ?_, fun b hb => ?_, fun q => ?_, fun q => ?_⟩
  · have := rv_row hx
    rw [Hei_Uel, Hei_Uei, if_neg (by omega)]
    refine o.1 A x ?_
    rw [← hx]
    unfold rv
    simp only [c_hi_cp, c_st_cp, c_jb_cp, c_fu_cp, c_go_cp, c_fr_cp, c_up_cp, c_wa_cp, c_re_cp, c_fo_cp, c_op_cp, c_an_cp, c_sg_cp, c_pa_cp, c_lf_cp]
  · rw [c_cp_cp, fset_eq]
    by_cases e : b = a
    · rw [if_pos e]
      unfold rcp
      dsimp only
      rw [Hei_Uel, Hei_Uei, if_pos ⟨rfl, by omega⟩, Hel_Uel, if_pos ⟨rfl, by omega⟩]
      exact ⟨rfl, hv, k2, dd⟩
    · rw [if_neg e]
      have := o.2.1 b hb
      unfold rcp at *
      rw [Hei_Uel, Hei_Uei, if_neg (by omega), Hel_Uel, if_neg (by omega), Hel_Uei]
      exact this
  · rw [c_pa_cp]
    refine ⟨(o.2.2.1 q).1, fun j hj => ?_⟩
    rw [Hei_Uel, Hei_Uei, if_neg (by omega)]
    exact (o.2.2.1 q).2 j hj
  · rw [c_lf_cp]
    refine ⟨(o.2.2.2 q).1, fun j hj => ?_⟩
    rw [Hei_Uel, Hei_Uei, if_neg (by omega), Hei_Uei, if_neg (by omega)]
    exact (o.2.2.2 q).2 j hj
theorem pOK_set {cp : Nat → Option (Int32 × zN)} {put : Bool} {p : List Nat} {w : Option (Int32 × zN)} (o : pOK cp put p) (hpl : ¬ p.length = 1 → ¬ zpar p = zlast p) : pOK (fset cp (zlast p) w) put p := by
  obtain ⟨o1, o2, o3, o4⟩ := o
  refine ⟨o1, o2, o3, fun q => ?_⟩
  rw [fset_eq, if_neg (hpl q)]
  exact o4 q
theorem r163_tot (hF : 1000 ≤ F) (hc : c < 2) (o : RX h S n0 [] c 3) (hbg : s_bg S < 512) (hn : n0 + 6 ≤ 1600) (ro : runOK (s_cl S c)) (lk : lkOK (s_cl S c) (ver, N)) (od : decN nd va vb vd N) : tot (m163 F 37 (Int32.ofNat c) ver nd va vb vd) h (fun _ h' => agR h h' ∧ EN h' S c (Dlook (s_cl S c) (ver, N)) n0) := by
  have rf := o.1
  have rc := o.2.2.2.2.2.2.2.1
  obtain ⟨w, hj, hfu, hpa⟩ := ro
  obtain ⟨po, ⟨kk, kk1, kk2, kk3⟩, hre, hlf, hpl, kd, k0, so, k2⟩ := lk
  dsimp only at kd k0 so k2
  have e63 : Hei h 63 c = c_go (s_cl S c) := rv_at rc (by unfold rv; simp)
  have e60 : Hei h 60 c = c_jb (s_cl S c) := rv_at rc (by unfold rv; simp [w.1])
  have hz := po.2.1
  have wrong : tot (m139 F 37 (Int32.ofNat c)) h (fun _ h' => agR h h' ∧ EN h' S c (Dwrong (s_cl S c)) n0) := r139_tot hF hc o hbg (by omega) w hfu hpa
  have body : ∀ t : Bool, t = decide (N.2.1 ≤ c_go (s_cl S c) ∧ c_go (s_cl S c) < N.2.2.1) → tot (b163_38 F (b2i t) (some 37) (Int32.ofNat c) ver nd va vb vd (Int32.ofNat (zlast (c_pa (s_cl S c))))) h (fun _ h' => agR h h' ∧ EN h' S c (Dlook (s_cl S c) (ver, N)) n0) := by
    intro t ht
    have hD : Dlook (s_cl S c) (ver, N) = if t = true then (if N.1 = 2 then Dwalk (c_cp_ (s_cl S c) (fset (c_cp (s_cl S c)) (zlast (c_pa (s_cl S c))) (some (ver, N)))) else if c_jb (s_cl S c) = 4 then Dcollect (s_cl S c) (ver, N) else Dleaf (s_cl S c) (ver, N)) else Dwrong (if N.1 = 2 then c_cp_ (s_cl S c) (fset (c_cp (s_cl S c)) (zlast (c_pa (s_cl S c))) (some (ver, N))) else s_cl S c) := by
      unfold Dlook
      dsimp only
      by_cases q : N.2.1 ≤ c_go (s_cl S c) ∧ c_go (s_cl S c) < N.2.2.1
      · rw [if_pos q]
        have tt : t = true := by rw [ht]; exact decide_eq_true q
        rw [if_pos tt]
        by_cases e : N.1 = 2
        · rw [if_pos e, if_pos e, if_pos e]
        · rw [if_neg e, if_neg e, if_neg e]
      · rw [if_neg q]
        have tt : t = false := by rw [ht]; exact decide_eq_false q
        rw [if_neg (show ¬ t = true by rw [tt]; decide)]
    unfold b163_38
    refine tot_bind r134_eq ?_
    rw [← od.1]
    by_cases e2 : N.1 = 2
    · rw [if_neg (fun z => z e2)]
      obtain ⟨v0, vi, wk, wl⟩ := k2 e2
      unfold b163_48
      rw [nn_some, mb_mr]
      refine tot_bind (g922 rf) ?_
      rw [nn_some, mb_mr, ix24]
      refine tot_bind (s57 rf (by omega)) ?_
      have a1 : agC c h (Uei h 57 (24 * c + zlast (c_pa (s_cl S c))) ver) := ag_ei (by decide) (fun q => q (by unfold KC; omega))
      have rf1 := ag_rF a1 rf
      refine tot_bind (g923 rf1) ?_
      rw [nn_some, mb_mr]
      refine tot_bind (s58 rf1 (by omega)) ?_
      obtain ⟨e1, rc1⟩ := rs_cpS (vv := (ver, N)) hc rc hz v0 e2 od
      dsimp only at e1 rc1
      generalize Uel (Uei h 57 (24 * c + zlast (c_pa (s_cl S c))) ver) 58 (24 * c + zlast (c_pa (s_cl S c))) nd = h2 at *
      have o2 := RX_cl hc e1 o rc1
      generalize hz2 : c_cp_ (s_cl S c) (fset (c_cp (s_cl S c)) (zlast (c_pa (s_cl S c))) (some (ver, N))) = z2 at *
      have ecl : s_cl (s_cl_ S (fset (s_cl S) c z2)) c = z2 := by rw [s_cl_cl, fset_eq, if_pos rfl]
      have z2cp : c_cp z2 = fset (c_cp (s_cl S c)) (zlast (c_pa (s_cl S c))) (some (ver, N)) := by rw [← hz2, c_cp_cp]
      have z2pa : c_pa z2 = c_pa (s_cl S c) := by rw [← hz2, c_pa_cp]
      have z2st : c_st z2 = c_st (s_cl S c) := by rw [← hz2, c_st_cp]
      have z2hi : c_hi z2 = c_hi (s_cl S c) := by rw [← hz2, c_hi_cp]
      have z2jb : c_jb z2 = c_jb (s_cl S c) := by rw [← hz2, c_jb_cp]
      have z2go : c_go z2 = c_go (s_cl S c) := by rw [← hz2, c_go_cp]
      have z2fu : c_fu z2 = c_fu (s_cl S c) := by rw [← hz2, c_fu_cp]
      have cw : cpW (c_cp z2) := by
        rw [z2cp]
        intro b q hq
        rw [fset_eq] at hq
        by_cases e : b = zlast (c_pa (s_cl S c))
        · rw [if_pos e] at hq; cases hq; exact ⟨so.1, vi⟩
        · rw [if_neg e] at hq; exact w.2.2.1 b q hq
      have w2 : okW z2 := ⟨by rw [z2st]; exact w.1, by rw [z2hi]; exact w.2.1, cw, by rw [z2cp, z2jb]; exact wk⟩
      cases t
      · rw [if_pos (by decide)]
        rw [hD, if_neg (by decide), if_pos e2]
        unfold b163_87 b163_155
        rw [nn_some, mb_mr]
        have tt := r139_tot (F := F) hF hc o2 hbg (by omega) (by rw [ecl]; exact w2) (by rw [ecl, z2fu]; exact hfu) (by rw [ecl, z2pa]; exact hpa)
        rw [ecl] at tt
        exact tot_bind (rF_vc o2.1) (tot_mb tt (fun _ h3 q3 => tot_mr ⟨agR_trans (ag_R e1) q3.1, EN_of q3.2⟩))
      · rw [if_neg (by decide)]
        rw [hD, if_pos rfl, if_pos e2]
        unfold b163_79 b163_155
        rw [nn_some, mb_mr]
        have tt := r144_tot (F := F) hF hc o2 hbg (by omega) (by rw [ecl, z2st]; exact w.1) (by rw [ecl, z2hi]; exact w.2.1) (by rw [ecl]; exact cw) (by rw [ecl, z2cp, z2jb, z2pa]; exact pOK_set po hpl) (by rw [ecl, z2cp, z2jb, z2go, z2pa]; exact wl)
        rw [ecl, Zbegin_cl] at tt
        exact tot_bind (rF_vc o2.1) (tot_mb tt (fun _ h3 q3 => tot_mr ⟨agR_trans (ag_R e1) q3.1, EN_3 q3.2⟩))
    · rw [if_pos e2]
      unfold b163_95
      refine tot_bind r134_eq ?_
      rw [← od.1]
      have wr : t = false → tot (b163_150 F (some 37) (Int32.ofNat c)) h (fun _ h' => agR h h' ∧ EN h' S c (Dlook (s_cl S c) (ver, N)) n0) := by
        intro tf
        rw [hD, if_neg (by rw [tf]; decide), if_neg e2]
        unfold b163_150 b163_155
        rw [nn_some, mb_mr]
        exact tot_bind (rF_vc rf) (tot_mb wrong (fun _ h3 q3 => tot_mr q3))
      by_cases e1 : N.1 = 1
      · rw [if_neg (fun z => z e1)]
        unfold b163_103
        cases t
        · rw [if_pos (by decide)]
          exact wr rfl
        · rw [if_neg (by decide), hD, if_pos rfl, if_neg e2]
          unfold b163_108
          rw [nn_some, mb_mr]
          refine tot_bind (g925 rf) ?_
          rw [nn_some, mb_mr]
          refine tot_bind (l60 rf hc) ?_
          rw [e60]
          by_cases j4 : c_jb (s_cl S c) = 4
          · rw [if_neg (fun z => z j4), if_pos j4]
            unfold b163_118 b163_155
            rw [nn_some, mb_mr]
            exact tot_bind (rF_vc rf) (tot_mb (r164_tot hF hc o hbg hn w po.1 hz od e1 hlf) (fun _ h3 q3 => tot_mr q3))
          · rw [if_pos j4, if_neg j4]
            unfold b163_134 b163_155
            rw [nn_some, mb_mr]
            refine tot_bind (rF_vc rf) (tot_mb (r167_tot hF hc o hbg (by omega) w po.1 hz od e1 (so.2 e1) kk2 (kk3 j4) kk1 hj j4 hre (fun j2 => ?_)) (fun _ h3 q3 => tot_mr q3))
            have jb : (c_jb (s_cl S c) == 2) = true := by simpa using j2
            refine ⟨w.2.1, po.1, hz, po.2.2.1, fun q => ?_⟩
            obtain ⟨r1, r2, r3, r4, r5⟩ := po.2.2.2 q
            exact ⟨r1, r2, r3, r4 jb, r5⟩
      · rw [if_pos e1]
        have e0 : N.1 = 0 := by
          rcases kd with e | e | e
          · exact e
          · exact absurd e e1
          · exact absurd e e2
        exact wr (by rw [ht]; exact decide_eq_false (k0 e0))
  unfold m163 b163_0
  rw [nn_some, mb_mr]
  refine tot_bind (rF_vc rf) (tot_bind (r145_eq rf hc rc po.1) (tot_bind (g928 rf) ?_))
  rw [nn_some, mb_mr]
  refine tot_bind (l63 rf hc) ?_
  rw [e63]
  refine tot_bind r149_eq ?_
  rw [← od.2.2.1]
  by_cases q1 : c_go (s_cl S c) < N.2.1
  · rw [if_pos q1]
    unfold b163_37
    exact body false (by rw [decide_eq_false (fun q => (i_nlt.mpr q.1) q1)])
  · rw [if_neg q1]
    unfold b163_20
    rw [nn_some, mb_mr]
    refine tot_bind (g928 rf) ?_
    rw [nn_some, mb_mr]
    refine tot_bind (l63 rf hc) ?_
    rw [e63]
    refine tot_bind r154_eq ?_
    rw [← od.2.2.2.1]
    by_cases q2 : N.2.2.1 ≤ c_go (s_cl S c)
    · rw [if_pos q2]
      unfold b163_37
      exact body false (by rw [decide_eq_false (fun q => (i_nlt.mpr q2) q.2)])
    · rw [if_neg q2]
      unfold b163_33
      exact body true (by rw [decide_eq_true ⟨i_nlt.mp q1, i_nle.mp q2⟩])
end RLOOK
