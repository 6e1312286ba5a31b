/-! A client at a leaf. -/
section CL7
variable {h h0 h1 h2 : xv_H} {B c F f x K K2 x0 n : Nat} {z : zC} {e s a d w : Option Nat} {v u : Int32 × zN}
theorem J4 {j : Int32} (hj : isJ j) : (some (xv_SB + 2 + j.toNatClampNeg) = some (xv_SB + 4)) ↔ j = 2 := J_eq (k := 2) hj (by decide)
theorem J5 {j : Int32} (hj : isJ j) : (some (xv_SB + 2 + j.toNatClampNeg) = some (xv_SB + 5)) ↔ j = 3 := J_eq (k := 3) hj (by decide)
theorem J6 {j : Int32} (hj : isJ j) : (some (xv_SB + 2 + j.toNatClampNeg) = some (xv_SB + 6)) ↔ j = 4 := J_eq (k := 4) hj (by decide)
theorem b2i_ne0 (b : Bool) : (¬ b2i b = 0) ↔ b = true := by cases b <;> decide
/-- what is left of useLeaf where nothing is to be split -/
def lfRest (z : zC) (v : Int32 × zN) : zD :=
  if c_jb z = 2 then (z, some ([(3, zlast (c_pa z), v.1, zwith v.2 (c_fr z) (c_wa z))], 2))
  else if c_jb z = 3 ∧ c_fo z = true then (z, some ([(3, zlast (c_pa z), v.1, zwout v.2 (zidx (c_fr z) v.2.2.2.2.1))], 2))
  else (Cdone z, none)
theorem c27_rest {nb : Nat} {k : Int32} (hB : isB B) (hF : 1000 ≤ F) (h60 : v.2.2.2.2.1.length < 60) (hlen : v.2.2.2.2.1.length = v.2.2.2.2.2.length) (hj : isJ (c_jb z)) (g : hb 60 h) (o : cs h B c z (some x0, s, a, none)) (oc : okCell h x0 v) (on : okN h nb v.2) (hk : c_fo z = true → k = Int32.ofNat (zidx (c_fr z) v.2.2.2.2.1) ∧ zidx (c_fr z) v.2.2.2.2.1 < v.2.2.2.2.1.length) : tot (b27_104 F (some B) (some nb) k) h (fun _ h' => ∃ a' d', ext 8 (XfC B) (XaC B) h h' ∧ cs h' B c (lfRest z v).1 (some x0, s, a', d') ∧ dft h h' c a' d' (lfRest z v).2) := by
  have j3 := cs_203 o (isJ_ne hj)
  have cm := calmC (h := h) hB
  have FIN : lfRest z v = (Cdone z, none) → tot (b27_177 F (some B)) h (fun _ h' => ∃ a' d', ext 8 (XfC B) (XaC B) h h' ∧ cs h' B c (lfRest z v).1 (some x0, s, a', d') ∧ dft h h' c a' d' (lfRest z v).2) := by
    intro hr
    rw [hr]
    unfold b27_177
    rw [nn_some, mb_mr]
    refine tot_bind (cs_102 o) ?_
    rw [nn_some, mb_mr]
    refine tot_bind (ok_vc (cs_lJ o)) ?_
    exact tot_mb (c21_tot hB o) (fun _ h2 r => tot_mr ⟨_, _, ext_le r.1 (by decide), r.2, rfl⟩)
  unfold b27_104
  rw [nn_some, mb_mr]
  refine tot_bind (cs_102 o) ?_
  rw [nn_some, mb_mr]
  refine tot_bind j3 (tot_bind (ok_cqJ hj (by decide)) ?_)
  refine tot_if (fun q => ?_) (fun q => ?_)
  · have n2 : ¬ c_jb z = 2 := fun r => q ((J4 hj).mpr r)
    unfold b27_142
    rw [nn_some, mb_mr]
    refine tot_bind (cs_102 o) ?_
    rw [nn_some, mb_mr]
    refine tot_bind j3 (tot_bind (ok_cqJ hj (by decide)) ?_)
    refine tot_if (fun q => ?_) (fun q => ?_)
    · have n3 : ¬ c_jb z = 3 := fun r => q ((J5 hj).mpr r)
      exact FIN (by unfold lfRest; rw [if_neg n2, if_neg (fun r => n3 r.1)])
    · have y3 : c_jb z = 3 := (J5 hj).mp (Classical.not_not.mp q)
      unfold b27_155
      rw [nn_some, mb_mr]
      refine tot_bind (cs_102 o) ?_
      rw [nn_some, mb_mr]
      refine tot_bind (cs_209 o) ?_
      refine tot_if (fun q => ?_) (fun q => ?_)
      · have q := (b2i_eq0 _).mp q
        exact FIN (by unfold lfRest; rw [if_neg n2, if_neg (fun r => by rw [q] at r; cases r.2)])
      · have q := (b2i_ne0 _).mp q
        have hr : lfRest z v = (z, some ([(3, zlast (c_pa z), v.1, zwout v.2 (zidx (c_fr z) v.2.2.2.2.1))], 2)) := by unfold lfRest; rw [if_neg n2, if_pos ⟨y3, q⟩]
        rw [hr, (hk q).1]
        unfold b27_165
        rw [nn_some, mb_mr]
        refine tot_bind (ok_vc on.1) ?_
        refine tot_mb (c34_tot on h60 (by omega) (hk q).2 (by have := (hk q).2; omega) (hb_le g (by decide))) (fun r h1 q1 => ?_)
        obtain ⟨n1, rfl, e1, on1⟩ := q1
        have o1 := cs_c0 e1 o
        rw [nn_some, mb_mr]
        refine tot_bind (ok_vc (cs_lB o1)) ?_
        refine tot_mb (c33_tot hB (hb_ext (r := 30) e1 (hb_le g (by decide))) o1 (okCell_c e1 calm0 oc) on1) (fun _ h2 q2 => ?_)
        obtain ⟨a', d', E2, c2, x, x1, x2, x3⟩ := q2
        exact tot_mr ⟨a', d', ext_trans (k1 := 3) (k2 := 5) (ext_any e1) E2, c2, x, x1, Nat.le_trans e1.1.1 x2, x3⟩
  · have y2 : c_jb z = 2 := (J4 hj).mp (Classical.not_not.mp q)
    have hr : lfRest z v = (z, some ([(3, zlast (c_pa z), v.1, zwith v.2 (c_fr z) (c_wa z))], 2)) := by unfold lfRest; rw [if_pos y2]
    rw [hr]
    unfold b27_117
    rw [nn_some, mb_mr]
    refine tot_bind (cs_102 o) ?_
    rw [nn_some, mb_mr]
    refine tot_bind (cs_204 o) (tot_bind (cs_102 o) ?_)
    rw [nn_some, mb_mr]
    refine tot_bind (cs_206 o) ?_
    rw [nn_some, mb_mr]
    refine tot_bind (ok_vc on.1) ?_
    refine tot_mb (c30_tot on h60 hlen hF (hb_le g (by decide))) (fun r h1 q1 => ?_)
    obtain ⟨n1, rfl, e1, on1⟩ := q1
    have o1 := cs_c0 e1 o
    refine tot_bind (ok_vc (cs_lB o1)) ?_
    refine tot_mb (c33_tot hB (hb_ext (r := 30) e1 (hb_le g (by decide))) o1 (okCell_c e1 calm0 oc) on1) (fun _ h2 q2 => ?_)
    obtain ⟨a', d', E2, c2, x, x1, x2, x3⟩ := q2
    exact tot_mr ⟨a', d', ext_trans (k1 := 3) (k2 := 5) (ext_any e1) E2, c2, x, x1, Nat.le_trans e1.1.1 x2, x3⟩
/-- the client with what it found at a leaf -/
def lfSeen (z : zC) (v : Int32 × zN) : zC := c_re_ (c_fo_ z (decide (zidx (c_fr z) v.2.2.2.2.1 < v.2.2.2.2.1.length))) (if decide (zidx (c_fr z) v.2.2.2.2.1 < v.2.2.2.2.1.length) then v.2.2.2.2.2.getD (zidx (c_fr z) v.2.2.2.2.1) 0 else 0)
theorem Dleaf_eq (z : zC) (v : Int32 × zN) : Dleaf z v = if c_jb z = 2 ∧ ¬ zidx (c_fr z) v.2.2.2.2.1 < v.2.2.2.2.1.length ∧ 3 ≤ v.2.2.2.2.1.length then Dsplit (lfSeen z v) v else lfRest (lfSeen z v) v := by
  have f1 : c_jb (lfSeen z v) = c_jb z := by unfold lfSeen; rw [c_jb_re, c_jb_fo]
  have f2 : c_pa (lfSeen z v) = c_pa z := by unfold lfSeen; rw [c_pa_re, c_pa_fo]
  have f3 : c_fr (lfSeen z v) = c_fr z := by unfold lfSeen; rw [c_fr_re, c_fr_fo]
  have f4 : c_wa (lfSeen z v) = c_wa z := by unfold lfSeen; rw [c_wa_re, c_wa_fo]
  have f5 : c_fo (lfSeen z v) = decide (zidx (c_fr z) v.2.2.2.2.1 < v.2.2.2.2.1.length) := by unfold lfSeen; rw [c_fo_re, c_fo_fo]
  unfold Dleaf lfRest
  rw [f1, f2, f3, f4, f5]
  simp only [decide_eq_false_iff_not]
  rfl
theorem c27_tot (hB : isB B) (hF : 1000 ≤ F) (h60 : v.2.2.2.2.1.length < 60) (hlen : v.2.2.2.2.1.length = v.2.2.2.2.2.length) (hj : isJ (c_jb z)) (g : hb 60 h) (o : cs h B c z (some x0, some (xv_SB + 16), a, none)) (oc : okCell h x0 v) : tot (m27 F B) h (fun _ h' => ∃ s' a' d' z', ext 8 (XfC B) (XaC B) h h' ∧ cs h' B c z' (some x0, some (xv_SB + s'), a', d') ∧
   ((s' = 18 ∧ d' = none ∧ a' = a ∧ z' = lfSeen z v ∧ Dleaf z v = Dsplit z' v ∧ 3 ≤ v.2.2.2.2.1.length) ∨ (s' = 16 ∧ Dleaf z v = (z', (Dleaf z v).2) ∧ dft h h' c a' d' (Dleaf z v).2))) := by
  obtain ⟨nb, p1, p2, p3, p4⟩ := cell_d oc
  obtain ⟨kk, ii, ⟨lb, g6⟩, ⟨g0, g1, g2, g3, g4⟩, ik, ok, im1, oi⟩ := okN_d p3
  have cm := calmC (h := h) hB
  have hne : ¬ Int32.ofNat (zidx (c_fr z) v.2.2.2.2.1) = -1 := fun q => by
    have := zidx_le (k := c_fr z) (l := v.2.2.2.2.1)
    have := congrArg Int32.toInt q
    rw [i_toInt (by omega)] at this
    have e1 : (-1 : Int32).toInt = -1 := rfl
    omega
  -- from the value on
  have TAIL : ∀ (b : Bool) (y k : Int32) (h1 : xv_H), b = decide (zidx (c_fr z) v.2.2.2.2.1 < v.2.2.2.2.1.length) → y = (if decide (zidx (c_fr z) v.2.2.2.2.1 < v.2.2.2.2.1.length) then v.2.2.2.2.2.getD (zidx (c_fr z) v.2.2.2.2.1) 0 else 0) → (b = true → k = Int32.ofNat (zidx (c_fr z) v.2.2.2.2.1)) → ext 0 (XfC B) (XaC B) h h1 → cs h1 B c (c_fo_ z b) (some x0, some (xv_SB + 16), a, none) → tot (b27_61 F y (some (B + 2)) (some B) (some nb) k) h1 (fun _ h' => ∃ s' a' d' z', ext 8 (XfC B) (XaC B) h h' ∧ cs h' B c z' (some x0, some (xv_SB + s'), a', d') ∧ ((s' = 18 ∧ d' = none ∧ a' = a ∧ z' = lfSeen z v ∧ Dleaf z v = Dsplit z' v ∧ 3 ≤ v.2.2.2.2.1.length) ∨ (s' = 16 ∧ Dleaf z v = (z', (Dleaf z v).2) ∧ dft h h' c a' d' (Dleaf z v).2))) := by
    intro b y k h1 hb' hy hk E1 o1
    unfold b27_61
    rw [nn_some, mb_mr]
    refine tot_bind (ok_pi (cs_lJ o1)) ?_
    have o2 := cs_re hB y o1
    have hz : c_re_ (c_fo_ z b) y = lfSeen z v := by unfold lfSeen; rw [hb', hy]
    rw [hz] at o2
    generalize e2 : Ufi h1 210 (B + 2) y = h2 at *
    have E2 : ext 0 (XfC B) (XaC B) h h2 := by rw [← e2]; exact ext_fiS E1 (Or.inl (Or.inr ⟨rfl, by decide⟩))
    have f1 : c_jb (lfSeen z v) = c_jb z := by unfold lfSeen; rw [c_jb_re, c_jb_fo]
    have f3 : c_fr (lfSeen z v) = c_fr z := by unfold lfSeen; rw [c_fr_re, c_fr_fo]
    have f5 : c_fo (lfSeen z v) = decide (zidx (c_fr z) v.2.2.2.2.1 < v.2.2.2.2.1.length) := by unfold lfSeen; rw [c_fo_re, c_fo_fo]
    have hj2 : isJ (c_jb (lfSeen z v)) := by rw [f1]; exact hj
    have REST : Dleaf z v = lfRest (lfSeen z v) v → tot (b27_104 F (some B) (some nb) k) h2 (fun _ h' => ∃ s' a' d' z', ext 8 (XfC B) (XaC B) h h' ∧ cs h' B c z' (some x0, some (xv_SB + s'), a', d') ∧ ((s' = 18 ∧ d' = none ∧ a' = a ∧ z' = lfSeen z v ∧ Dleaf z v = Dsplit z' v ∧ 3 ≤ v.2.2.2.2.1.length) ∨ (s' = 16 ∧ Dleaf z v = (z', (Dleaf z v).2) ∧ dft h h' c a' d' (Dleaf z v).2))) := by
      intro hr
      refine tot_mono (c27_rest hB hF h60 hlen hj2 (hb_ext (K := 0) E2 (by simpa using g)) o2 (okCell_c E2 cm oc) (okN_c E2 cm p3) (fun q => ?_)) (fun _ h3 q => ?_)
      · rw [f5] at q
        rw [f3]
        exact ⟨hk (by rw [hb']; exact q), of_decide_eq_true q⟩
      · obtain ⟨a', d', E3, c3, dd⟩ := q
        refine ⟨16, a', d', _, ext_trans (k1 := 0) (k2 := 8) E2 E3, c3, Or.inr ⟨rfl, by rw [hr], ?_⟩⟩
        rw [hr]
        cases hD : (lfRest (lfSeen z v) v).2 with
        | none => rw [hD] at dd; exact dd
        | some r =>
          rw [hD] at dd
          obtain ⟨x, x1, x2, x3⟩ := dd
          exact ⟨x, x1, Nat.le_trans E2.1.1 x2, x3⟩
    rw [nn_some, mb_mr]
    refine tot_bind (cs_102 o2) ?_
    rw [nn_some, mb_mr]
    have j3 := cs_203 o2 (isJ_ne hj2)
    refine tot_bind j3 (tot_bind (ok_cqJ hj2 (by decide)) ?_)
    refine tot_if (fun q => ?_) (fun q => ?_)
    · have n2 : ¬ c_jb z = 2 := fun r => q ((J4 hj2).mpr (f1.trans r))
      exact REST (by rw [Dleaf_eq, if_neg (fun r => n2 r.1)])
    · have y2 : c_jb z = 2 := f1.symm.trans ((J4 hj2).mp (Classical.not_not.mp q))
      unfold b27_77
      rw [nn_some, mb_mr]
      refine tot_bind (cs_102 o2) ?_
      rw [nn_some, mb_mr]
      refine tot_bind (cs_209 o2) ?_
      rw [f5]
      refine tot_if (fun q => ?_) (fun q => ?_)
      · have q := of_decide_eq_true ((b2i_ne0 _).mp q)
        exact REST (by rw [Dleaf_eq, if_neg (fun r => r.2.1 q)])
      · have q := of_decide_eq_false ((b2i_eq0 _).mp (Classical.not_not.mp q))
        unfold b27_87
        rw [nn_some, mb_mr]
        have on2 := okN_c E2 cm p3
        refine tot_bind (ok_vc on2.1) (tot_bind (c29_eq on2 (by omega)) ?_)
        by_cases h3 : v.2.2.2.2.1.length < 3
        · rw [if_pos h3, if_pos rfl]
          exact REST (by rw [Dleaf_eq, if_neg (fun r => by have := r.2.2; omega)])
        · rw [if_neg h3, if_neg (by decide)]
          unfold b27_94
          rw [nn_some, mb_mr]
          refine tot_bind (ok_pr (cs_lB o2)) ?_
          refine tot_mr ⟨18, a, none, lfSeen z v, ext_le (ext_frS E2 (Or.inl (Or.inl ⟨rfl, by decide⟩))) (by decide), cs_step hB _ o2, Or.inl ⟨rfl, rfl, rfl, rfl, ?_, by omega⟩⟩
          rw [Dleaf_eq, if_pos ⟨y2, q, by omega⟩]
  have MID : ∀ (b : Bool) (k : Int32), b = decide (zidx (c_fr z) v.2.2.2.2.1 < v.2.2.2.2.1.length) → (b = true → k = Int32.ofNat (zidx (c_fr z) v.2.2.2.2.1)) → tot (b27_34 F (b2i b) (some (B + 2)) (some B) (some nb) k) h (fun _ h' => ∃ s' a' d' z', ext 8 (XfC B) (XaC B) h h' ∧ cs h' B c z' (some x0, some (xv_SB + s'), a', d') ∧ ((s' = 18 ∧ d' = none ∧ a' = a ∧ z' = lfSeen z v ∧ Dleaf z v = Dsplit z' v ∧ 3 ≤ v.2.2.2.2.1.length) ∨ (s' = 16 ∧ Dleaf z v = (z', (Dleaf z v).2) ∧ dft h h' c a' d' (Dleaf z v).2))) := by
    intro b k hb' hk
    unfold b27_34
    rw [nn_some, mb_mr]
    refine tot_bind (ok_pz (cs_lJ o) (b2i_01 b)) ?_
    have o1 := cs_fo hB b o
    generalize e1 : Ufi h 209 (B + 2) (b2i b) = h1 at *
    have E1 : ext 0 (XfC B) (XaC B) h h1 := by rw [← e1]; exact ext_fi (Or.inr ⟨rfl, by decide⟩)
    rw [nn_some, mb_mr]
    refine tot_bind (cs_102 o1) (tot_bind (cs_102 o1) ?_)
    rw [nn_some, mb_mr]
    refine tot_bind (cs_209 o1) ?_
    rw [c_fo_fo]
    refine tot_if (fun q => ?_) (fun q => ?_)
    · have q := (b2i_eq0 _).mp q
      unfold b27_60
      exact TAIL b 0 k h1 hb' (by rw [← hb', q]; rfl) hk E1 o1
    · have q := (b2i_ne0 _).mp q
      have hi : zidx (c_fr z) v.2.2.2.2.1 < v.2.2.2.2.1.length := of_decide_eq_true (hb'.symm.trans q)
      unfold b27_51
      rw [nn_some, mb_mr]
      refine tot_bind (gr_ext E1 (fun q => cm.1 _ _ (by decide) (by decide) q) g4) ?_
      rw [nn_some, mb_mr, hk q]
      refine tot_bind (okA_li (okA_ext E1 (cm.2 _ im1 oi.1.2.2) oi) (by omega) (by omega)) ?_
      exact TAIL b _ _ h1 hb' (by rw [← hb', q]; rfl) (fun _ => rfl) E1 o1
  unfold m27 b27_0
  rw [nn_some, mb_mr]
  refine tot_bind (cs_106 o) ?_
  rw [nn_some, mb_mr]
  refine tot_bind p1 (tot_bind (cs_102 o) ?_)
  rw [nn_some, mb_mr]
  refine tot_bind (cs_204 o) ?_
  rw [nn_some, mb_mr]
  refine tot_bind p4 (tot_bind (c28_eq p3 (by omega) hF) (tot_bind (cs_102 o) ?_))
  rw [zx_idx]
  by_cases hi : zidx (c_fr z) v.2.2.2.2.1 < v.2.2.2.2.1.length
  · rw [if_pos hi, Nat.zero_add, if_neg hne]
    unfold b27_29
    exact MID true _ (by simpa using hi) (fun _ => rfl)
  · rw [if_neg hi, if_pos rfl]
    unfold b27_33
    exact MID false _ (by simpa using hi) (fun q => by cases q)
end CL7
