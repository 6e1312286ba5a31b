/-! A client goes wrong, goes on, looks, goes down. -/
section CL9
variable {h h0 h1 h2 : xv_H} {B c F f x K K2 x0 n : Nat} {z : zC} {e s a d w : Option Nat} {v u : Int32 × zN}
/-- advance will come to D -/
def RDY (F : Nat) (h : xv_H) (B c : Nat) (D : zD) : Prop := lv h B 1 ∧ tot (m14 F B) h (fun _ h' => AD h h' B c D)
theorem okY_f (hz : okY z) : okY (Cforget z) := by
  obtain ⟨hj, hh, hcp⟩ := hz
  refine ⟨?_, ?_, ?_⟩
  · unfold Cforget; rw [c_jb_cp]; exact hj
  · unfold Cforget; rw [c_hi_cp]; exact hh
  · intro p q hq
    unfold Cforget at hq
    rw [c_cp_cp] at hq
    by_cases hm : p ∈ c_pa z
    · rw [if_pos hm] at hq; cases hq
    · rw [if_neg hm] at hq; exact hcp p q hq
theorem c80_rdy (hB : isB B) (hF : 1000 ≤ F) (hz : okY z) (g : hb 200 h) (o : cs h B c z (e, s, a, none)) : tot (m80 F B) h (fun _ h' => ext 0 (XfC B) (XaC B) h h' ∧ RDY F h' B c (Dwrong z)) := by
  refine tot_mono (c80_tot hB hF o) (fun _ h1 q => ?_)
  obtain ⟨E, o1⟩ := q
  refine ⟨E, cs_lB o1, ?_⟩
  have zf := okY_f hz
  have hD : Dwrong z = if 0 < c_fu z - 1 then Dstart (c_fu_ (Cforget z) (c_fu z - 1)) else (c_st_ (c_fu_ (Cforget z) (c_fu z - 1)) 4, none) := (rfl)
  rw [hD]
  by_cases q : 0 < c_fu z - 1
  · rw [if_pos q, if_pos q] at o1
    rw [if_pos q]
    refine adv_start hB hF ⟨?_, ?_, ?_⟩ (hb_ext (K := 0) E (hb_le g (by decide))) o1
    · rw [c_jb_fu]; exact zf.1
    · rw [c_hi_fu]; exact zf.2.1
    · rw [c_cp_fu]; exact zf.2.2
  · rw [if_neg q, if_neg q] at o1
    rw [if_neg q]
    exact adv_rest hB o1
/-- what may be seen -/
def wfV (N : zN) : Prop := if N.1 = 2 then wfI N else N.2.2.2.1.length < 60 ∧ N.2.2.2.1.length = N.2.2.2.2.length
theorem fset_eq {α : Type} (f : Nat → α) (x y : Nat) (w : α) : fset f x w y = if y = x then w else f y := (rfl)
theorem c84_rdy (hB : isB B) (hF : 1000 ≤ F) (hz : okZ z) (hv : wfV v.2) (hpl : ¬ (c_pa z).length = 1 → ¬ zpar (c_pa z) = zlast (c_pa z)) (g : hb 200 h) (o : cs h B c z (e, s, a, none)) (oc : okCell h x v) : tot (m84 F B (some x)) h (fun _ h' => ext 0 (XfC B) (XaC B) h h' ∧ RDY F h' B c (Dlook z v)) := by
  obtain ⟨nb, r1, r2, on, v6⟩ := cell_d oc
  obtain ⟨kk, ii, ⟨lb, g6⟩, ⟨g0, g1, g2, g3, g4⟩, ik, ok, im1, oi⟩ := okN_d on
  have cm := calmC (h := h) hB
  have hP := zlast_lt o.1.2.2.1
  unfold m84 b84_0
  rw [nn_some, mb_mr]
  refine tot_bind r1 ?_
  rw [nn_some, mb_mr]
  refine tot_bind g0 ?_
  have key : ∀ (z1 : zC) (h1 : xv_H) (k : Int32), ext 0 (XfC B) (XaC B) h h1 → okZ z1 → cs h1 B c z1 (e, s, a, none) → k = (if v.2.1 = 2 then 1 else 0) → (z1 = if v.2.1 = 2 then c_cp_ z (fset (c_cp z) (zlast (c_pa z)) (some v)) else z) → tot (b84_31 F (some B) (some x) k) h1 (fun _ h' => ext 0 (XfC B) (XaC B) h h' ∧ RDY F h' B c (Dlook z v)) := by
    intro z1 h1 k E1 hz1 o1 hk e1
    have oc1 := okCell_c E1 cm oc
    have on1 := okN_c E1 cm on
    have ego : c_go z1 = c_go z := by
      rw [e1]; split
      · rw [c_go_cp]
      · rfl
    have ejb : c_jb z1 = c_jb z := by
      rw [e1]; split
      · rw [c_jb_cp]
      · rfl
    unfold b84_31
    rw [nn_some, mb_mr]
    refine tot_bind (ok_pr (cs_lB o1)) ?_
    have o2 := cs_end hB (some x) o1
    have E12 : ext 0 (XfC B) (XaC B) h1 (Ufr h1 106 B (some x)) := ext_fr (Or.inl ⟨rfl, by decide⟩)
    generalize Ufr h1 106 B (some x) = h2 at *
    have E2 : ext 0 (XfC B) (XaC B) h h2 := ext_trans (k1 := 0) (k2 := 0) E1 E12
    have oc2 := okCell_c E2 cm oc
    have on2 := okN_c E2 cm on
    rw [nn_some, mb_mr]
    refine tot_bind (by rw [ok_gr oc2.1]) ?_
    have e701 : Hfr h2 701 x = some nb := by
      have t := gr_ext E2 (fun q => cm.1 _ _ (by decide) (by decide) q) r1
      rw [ok_gr oc2.1] at t
      injection t with t; injection t with t _
    rw [e701]
    refine tot_bind (cs_105 o2) ?_
    rw [nn_some, mb_mr]
    refine tot_bind (ok_vc on2.1) (tot_bind (c85_eq on2) ?_)
    have hD : Dlook z v = if v.2.2.1 ≤ c_go z ∧ c_go z < v.2.2.2.1 then (if v.2.1 = 2 then Dwalk z1 else if c_jb z = 4 then Dcollect z1 v else Dleaf z1 v) else Dwrong z1 := by rw [e1]; rfl
    rw [ego, hD]
    by_cases q : v.2.2.1 ≤ c_go z ∧ c_go z < v.2.2.2.1
    · rw [if_pos q, if_pos q, if_pos (by decide)]
      unfold b84_57
      rw [hk]
      by_cases k2 : v.2.1 = 2
      · rw [if_pos k2, if_pos k2, if_neg (by decide)]
        unfold b84_62 b84_71 b84_74
        rw [nn_some, mb_mr]
        refine tot_bind (ok_pr (cs_lB o2)) ?_
        have o3 := cs_step hB (some (xv_SB + 17)) o2
        have E3 : ext 0 (XfC B) (XaC B) h (Ufr h2 109 B (some (xv_SB + 17))) := ext_frS E2 (Or.inl (Or.inl ⟨rfl, by decide⟩))
        exact tot_mr ⟨E3, cs_lB o3, adv_walk hB hF hz1 (hb_ext (K := 0) E3 (hb_le g (by decide))) o3⟩
      · rw [if_neg k2, if_neg k2, if_pos rfl]
        unfold b84_68 b84_71 b84_74
        rw [nn_some, mb_mr]
        refine tot_bind (ok_pr (cs_lB o2)) ?_
        have o3 := cs_step hB (some (xv_SB + 16)) o2
        have E3 : ext 0 (XfC B) (XaC B) h (Ufr h2 109 B (some (xv_SB + 16))) := ext_frS E2 (Or.inl (Or.inl ⟨rfl, by decide⟩))
        unfold wfV at hv
        rw [if_neg k2] at hv
        have al := adv_leaf hB hF hz1 hv.1 hv.2 (hb_ext (K := 0) E3 (hb_le g (by decide))) o3 (okCell_c E3 cm oc)
        rw [ejb] at al
        exact tot_mr ⟨E3, cs_lB o3, al⟩
    · rw [if_neg q, if_neg q, if_neg (by decide)]
      unfold b84_50 b84_74
      rw [nn_some, mb_mr]
      refine tot_bind (ok_vc (cs_lB o2)) ?_
      refine tot_mb (c80_rdy hB hF (okZ_Y hz1) (hb_ext (K := 0) E2 (hb_le g (by decide))) o2) (fun _ h3 q3 => ?_)
      exact tot_mr ⟨ext_trans (k1 := 0) (k2 := 0) E2 q3.1, q3.2⟩
  by_cases k2 : v.2.1 = 2
  · rw [if_neg (fun q => q k2)]
    unfold b84_11 b84_16
    rw [if_neg (by decide)]
    unfold b84_21
    rw [nn_some, mb_mr]
    refine tot_bind (cs_101 o) (tot_bind (ok_vc (cs_lB o)) (tot_bind (c19_eq o) ?_))
    rw [nn_some, mb_mr]
    have hlC := cs_lC o
    have en : (Int32.ofNat (zlast (c_pa z))).toNatClampNeg = zlast (c_pa z) := i_nat (by omega)
    refine tot_bind (ok_sr hlC.1 (i_nn (by omega)) (by rw [en, hlC.2]; exact hP) (fun b hb => by cases hb; exact oc.1)) ?_
    rw [en]
    have wf : wfI v.2 := by unfold wfV at hv; rw [if_pos k2] at hv; exact hv
    refine key (c_cp_ z (fset (c_cp z) (zlast (c_pa z)) (some v))) _ 1 (ext_er (Or.inl rfl)) ?_ (cs_cp hB hP ⟨x, rfl, oc⟩ o) (by rw [if_pos k2]) (by rw [if_pos k2])
    obtain ⟨hj, hh, hcp, hlo⟩ := hz
    refine ⟨?_, ?_, ?_, ?_⟩
    · rw [c_jb_cp]; exact hj
    · rw [c_hi_cp]; exact hh
    · intro p q hq
      rw [c_cp_cp, fset_eq] at hq
      by_cases hm : p = zlast (c_pa z)
      · rw [if_pos hm] at hq; cases hq; exact wf
      · rw [if_neg hm] at hq; exact hcp p q hq
    · rw [c_cp_cp, c_pa_cp]
      intro n q hq
      rw [fset_eq, if_neg (hpl n)] at hq
      exact hlo n q hq
  · rw [if_pos k2]
    unfold b84_15 b84_16
    rw [if_pos rfl]
    exact key z h 0 ext_refl hz o (by rw [if_neg k2]) (by rw [if_neg k2])
/-- goOn: the step afterwards is given by the stage -/
theorem c83_rdy {so : Option (Int32 × zN)} {sw : Option Nat} (hB : isB B) (hF : 1000 ≤ F) (hz : okY z) (hlo : c_sg z = 1 → lastOK (c_cp z) (c_pa z)) (hsg : c_sg z = 1 ∨ c_sg z = 2 ∨ c_sg z = 3) (hv : ∀ v, so = some v → wfV v.2) (hpl : c_sg z = 1 → ¬ (c_pa z).length = 1 → ¬ zpar (c_pa z) = zlast (c_pa z)) (g : hb 200 h) (o : cs h B c z (e, some (xv_SB + 11), some (xv_SB + 11 + (c_sg z).toNatClampNeg), none)) (oo : okO h sw so) : tot (m83 F B sw) h (fun _ h' => ext 0 (XfC B) (XaC B) h h' ∧ RDY F h' B c (Dgo z so)) := by
  have i1 : (1 : Int32).toNatClampNeg = 1 := by decide
  have i2 : (2 : Int32).toNatClampNeg = 2 := by decide
  have i3 : (3 : Int32).toNatClampNeg = 3 := by decide
  have key : ∀ k, (k = 12 ∧ so = none ∧ c_sg z = 1) ∨ (k = 13 ∧ c_sg z = 2) ∨ (k = 14 ∧ c_sg z = 3) → cs h B c z (e, some (xv_SB + 11), some (xv_SB + k), none) → tot (b83_22 F (some B)) h (fun _ h' => ext 0 (XfC B) (XaC B) h h' ∧ RDY F h' B c (Dgo z so)) := by
    intro k hk o
    unfold b83_22
    rw [nn_some, mb_mr]
    refine tot_bind (cs_110 o) (tot_bind (cqS (by omega) (by decide)) ?_)
    rcases hk with ⟨rfl, hs, h1⟩ | ⟨rfl, h2⟩ | ⟨rfl, h3⟩
    · rw [if_pos (S_ne (by decide))]
      unfold b83_46 b83_53
      rw [nn_some, mb_mr]
      refine tot_bind (cs_102 o) ?_
      rw [nn_some, mb_mr]
      refine tot_bind (ok_vc (cs_lJ o)) (tot_mb (c21_tot hB o) (fun _ h1_ q => tot_mr ⟨q.1, cs_lB q.2, ?_⟩))
      have hD : Dgo z so = (Cdone z, none) := by
        unfold Dgo; rw [if_pos h1, hs]; show (if c_sg z = 3 then _ else _) = _; rw [if_neg (by rw [h1]; decide)]
      rw [hD]
      exact adv_rest hB q.2
    · rw [if_pos (S_ne (by decide))]
      unfold b83_46 b83_53
      rw [nn_some, mb_mr]
      refine tot_bind (cs_102 o) ?_
      rw [nn_some, mb_mr]
      refine tot_bind (ok_vc (cs_lJ o)) (tot_mb (c21_tot hB o) (fun _ h1_ q => tot_mr ⟨q.1, cs_lB q.2, ?_⟩))
      have hD : Dgo z so = (Cdone z, none) := by
        unfold Dgo; rw [if_neg (by rw [h2]; decide)]; show (if c_sg z = 3 then _ else _) = _; rw [if_neg (by rw [h2]; decide)]
      rw [hD]
      exact adv_rest hB q.2
    · rw [if_neg (fun q => q rfl)]
      unfold b83_32 b83_53
      rw [nn_some, mb_mr]
      refine tot_bind (ok_vc (cs_lB o)) (tot_mb (c81_tot hB hF o) (fun _ h1_ q => ?_))
      refine tot_bind (ok_pr (cs_lB q.2)) ?_
      have o3 := cs_step hB (some (xv_SB + 15)) q.2
      have E3 : ext 0 (XfC B) (XaC B) h (Ufr h1_ 109 B (some (xv_SB + 15))) := ext_frS q.1 (Or.inl (Or.inl ⟨rfl, by decide⟩))
      have hD : Dgo z so = Dstart (Cforget z) := by
        unfold Dgo; rw [if_neg (by rw [h3]; decide)]; show (if c_sg z = 3 then _ else _) = _; rw [if_pos h3]
      rw [hD]
      exact tot_mr ⟨E3, cs_lB o3, adv_start hB hF (okY_f hz) (hb_ext (K := 0) E3 (hb_le g (by decide))) o3⟩
  unfold m83 b83_0
  rw [nn_some, mb_mr]
  refine tot_bind (cs_110 o) ?_
  rcases hsg with h1 | h2 | h3
  · rw [h1, i1] at o
    have e12 : xv_SB + 11 + (c_sg z).toNatClampNeg = xv_SB + 12 := by rw [h1, i1]
    dsimp only
    rw [e12]
    refine tot_bind (cqS (by decide) (by decide)) ?_
    rw [if_neg (fun q => q rfl)]
    unfold b83_10
    cases so with
    | none =>
      have : sw = none := oo
      rw [this, if_pos rfl]
      exact key 12 (Or.inl ⟨rfl, rfl, h1⟩) o
    | some v =>
      obtain ⟨x, rfl, oc⟩ := oo
      rw [if_neg (by simp)]
      unfold b83_14 b83_53
      rw [nn_some, mb_mr]
      refine tot_bind (ok_vc (cs_lB o)) (tot_mb (c84_rdy hB hF ⟨hz.1, hz.2.1, hz.2.2, hlo h1⟩ (hv v rfl) (hpl h1) g o oc) (fun _ h1_ q => tot_mr ⟨q.1, ?_⟩))
      have hD : Dgo z (some v) = Dlook z v := by unfold Dgo; rw [if_pos h1]
      rw [hD]
      exact q.2
  · rw [h2, i2] at o
    have e12 : xv_SB + 11 + (c_sg z).toNatClampNeg = xv_SB + 13 := by rw [h2, i2]
    dsimp only
    rw [e12]
    refine tot_bind (cqS (by decide) (by decide)) ?_
    rw [if_pos (S_ne (by decide))]
    exact key 13 (Or.inr (Or.inl ⟨rfl, h2⟩)) o
  · rw [h3, i3] at o
    have e12 : xv_SB + 11 + (c_sg z).toNatClampNeg = xv_SB + 14 := by rw [h3, i3]
    dsimp only
    rw [e12]
    refine tot_bind (cqS (by decide) (by decide)) ?_
    rw [if_pos (S_ne (by decide))]
    exact key 14 (Or.inr (Or.inr ⟨rfl, h3⟩)) o
end CL9
