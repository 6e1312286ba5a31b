/-! The calls of the class: recover. -/
section RECO
variable {h h1 h2 : xv_H} {F f x y c t m n K bg B : Nat} {T : zT} {S : zS} {i : Int32}
theorem opOK_commit (w : opOK S) : opOK (Zcommit t m S) := by
  unfold Zcommit
  split
  · exact w
  · exact w
theorem opOK_abort (w : opOK S) : opOK (Zabort t m S) := by
  unfold Zabort
  dsimp only
  split
  · split
    · exact w
    · exact w
  · split
    · exact w
    · exact w
theorem ti_commit : s_ti (Zcommit t m S) = s_ti S ∧ s_bg (Zcommit t m S) = s_bg S := by
  unfold Zcommit
  split
  · exact ⟨rfl, rfl⟩
  · exact ⟨rfl, rfl⟩
theorem ti_abort : s_ti (Zabort t m S) = s_ti S ∧ s_bg (Zabort t m S) = s_bg S := by
  unfold Zabort
  dsimp only
  split
  · split
    · exact ⟨rfl, rfl⟩
    · exact ⟨rfl, rfl⟩
  · split
    · exact ⟨rfl, rfl⟩
    · exact ⟨rfl, rfl⟩
theorem opOK_s1 {b : Bool} (w : opOK S) : opOK (Zsettle1 t m b S) := by
  unfold Zsettle1
  split
  · split
    · exact opOK_commit w
    · exact opOK_abort w
  · exact w
theorem ti_s1 {b : Bool} : s_ti (Zsettle1 t m b S) = s_ti S ∧ s_bg (Zsettle1 t m b S) = s_bg S := by
  unfold Zsettle1
  split
  · split
    · exact ti_commit
    · exact ti_abort
  · exact ⟨rfl, rfl⟩
/-- areParticipantsUp -/
theorem c108_eq (hF : 1000 ≤ F) (o : CR h S T) (t1 : 1 ≤ t) (t2 : t ≤ s_bg S) : m108 F 0 (some (T t)) h = some (b2i (!((tp (s_ti S t) 0 && s_dn S 0) || (tp (s_ti S t) 1 && s_dn S 1) || (tp (s_ti S t) 2 && s_dn S 2))), h) := by
  obtain ⟨z0, z1, z2, z3, z4, zv⟩ := cr_0 o
  obtain ⟨x7, ot⟩ := cr_tx o t1 t2
  obtain ⟨_, _, d2, _⟩ := okTx_d ot
  obtain ⟨F', rfl⟩ : ∃ k, F = k + 4 := ⟨F - 4, by omega⟩
  have st : ∀ (q j : Nat), j < 3 → b108_2 (F' + 4) (q + 1) (some 0) (some (T t)) (Int32.ofNat j) h = if (tp (s_ti S t) j && s_dn S j) then some (0, h) else b108_2 (F' + 4) q (some 0) (some (T t)) (Int32.ofNat j + 1) h := by
    intro q j hj
    conv => lhs; unfold b108_2
    rw [if_neg (fun z => by rw [show (3 : Int32) = Int32.ofNat 3 from rfl, i_le (by decide) (by omega)] at z; omega)]
    unfold b108_7
    rw [nn_some, mb_mr, mb_some d2, nn_some, mb_mr, mb_some (okTx_tp ot hj)]
    cases tp (s_ti S t) j
    · rfl
    · rw [if_neg (by decide)]
      unfold b108_16
      rw [nn_some, mb_mr, mb_some z0, nn_some, mb_mr, mb_some (cr_mem o hj), nn_some, mb_mr, mb_some (kM_d (o.2.1 j hj)).2.2.2.2.2]
      cases s_dn S j
      · rfl
      · rfl
  unfold m108 b108_0
  rw [show (0 : Int32) = Int32.ofNat 0 from rfl, st _ 0 (by decide), show Int32.ofNat 0 + 1 = Int32.ofNat 1 from rfl, st _ 1 (by decide), show Int32.ofNat 1 + 1 = Int32.ofNat 2 from rfl, st _ 2 (by decide), show Int32.ofNat 2 + 1 = Int32.ofNat 3 from rfl]
  unfold b108_2
  have e3 : (3 : Int32) ≤ Int32.ofNat 3 := by decide
  rw [if_pos e3]
  cases (tp (s_ti S t) 0 && s_dn S 0)
  · cases (tp (s_ti S t) 1 && s_dn S 1)
    · cases (tp (s_ti S t) 2 && s_dn S 2)
      · rfl
      · rfl
    · rfl
  · rfl
/-- isToCommit -/
theorem c110_eq (hF : 1000 ≤ F) (o : CR h S T) (t1 : 1 ≤ t) (t2 : t ≤ s_bg S) (hbg : s_bg S ≤ 512) : m110 F 0 (some (T t)) h = some (b2i (zdec (s_rm S) (s_ti S t) t), h) := by
  obtain ⟨z0, z1, z2, z3, z4, zv⟩ := cr_0 o
  obtain ⟨x7, ot⟩ := cr_tx o t1 t2
  obtain ⟨_, _, d2, _, _, _, d5, _⟩ := okTx_d ot
  obtain ⟨F', rfl⟩ : ∃ k, F = k + 4 := ⟨F - 4, by omega⟩
  have st : ∀ (q j : Nat) (n : Bool), j < 3 → b110_4 (F' + 4) (q + 1) (some 0) (some (T t)) (b2i n) (Int32.ofNat j) h = if (tp (s_ti S t) j && s_rm S t j == 2) then some (1, h) else b110_4 (F' + 4) q (some 0) (some (T t)) (b2i (n && (!(tp (s_ti S t) j) || s_rm S t j == 1))) (Int32.ofNat j + 1) h := by
    intro q j n hj
    conv => lhs; unfold b110_4
    rw [if_neg (fun z => by rw [show (3 : Int32) = Int32.ofNat 3 from rfl, i_le (by decide) (by omega)] at z; omega)]
    unfold b110_9
    rw [nn_some, mb_mr, mb_some d2, nn_some, mb_mr, mb_some (okTx_tp ot hj)]
    cases tp (s_ti S t) j
    · rw [if_neg (by decide)]
      cases n <;> rfl
    · rw [if_pos (by decide)]
      unfold b110_21
      rw [nn_some, mb_mr, mb_some z0, nn_some, mb_mr, mb_some (cr_mem o hj), nn_some, mb_mr, mb_some (kM_d (o.2.1 j hj)).2.2.2.2.1, nn_some, mb_mr, mb_some d5, nn_some, mb_mr, mb_some (kM_rm (o.2.1 j hj) (by omega))]
      by_cases q2 : s_rm S t j = 2
      · have e2 : (s_rm S t j == 2) = true := by simpa using q2
        rw [if_neg (fun z => z q2), e2]; rfl
      · have e2 : (s_rm S t j == 2) = false := by simpa using q2
        rw [if_pos q2, e2]
        unfold b110_45
        by_cases q1 : s_rm S t j = 1
        · have e1 : (s_rm S t j == 1) = true := by simpa using q1
          rw [if_pos q1, e1]
          cases n <;> rfl
        · have e1 : (s_rm S t j == 1) = false := by simpa using q1
          rw [if_neg q1, e1]
          cases n <;> rfl
  unfold m110 b110_0
  rw [show (0 : Int32) = Int32.ofNat 0 from rfl, show (1 : Int32) = b2i true from rfl, st _ 0 _ (by decide), show Int32.ofNat 0 + 1 = Int32.ofNat 1 from rfl, st _ 1 _ (by decide), show Int32.ofNat 1 + 1 = Int32.ofNat 2 from rfl, st _ 2 _ (by decide), show Int32.ofNat 2 + 1 = Int32.ofNat 3 from rfl]
  unfold b110_4
  have e3 : (3 : Int32) ≤ Int32.ofNat 3 := by decide
  rw [if_pos e3]
  unfold b110_59 zdec
  rw [mb_some (ok_bz (b2i_01 _))]
  cases (tp (s_ti S t) 0 && s_rm S t 0 == 2)
  · cases (tp (s_ti S t) 1 && s_rm S t 1 == 2)
    · cases (tp (s_ti S t) 2 && s_rm S t 2 == 2)
      · cases (!tp (s_ti S t) 0 || s_rm S t 0 == 1)
        · rfl
        · rfl
      · rfl
    · rfl
  · rfl
/-- settle, one step -/
theorem c109_step {Q : Unit → xv_H → Prop} {q j : Nat} {b : Bool} (hF : 1000 ≤ F) (hj : j < 3) (t1 : 1 ≤ t) (t2 : t ≤ s_bg S) (hbg : s_bg S ≤ 512) (wf : wfT (s_ti S t)) (o : CR h S T) (w : opOK S) (g : hb 10 h) (k : ∀ h', gw 6 h h' → CR h' (Zsettle1 t j b S) T → tot (b109_8 F q (some 0) (some (T t)) (b2i b) (Int32.ofNat (j + 1))) h' Q) : tot (b109_8 F (q + 1) (some 0) (some (T t)) (b2i b) (Int32.ofNat j)) h Q := by
  obtain ⟨z0, z1, z2, z3, z4, zv⟩ := cr_0 o
  obtain ⟨x7, ot⟩ := cr_tx o t1 t2
  obtain ⟨v4, d1, d2, d3, _, d4, _, d6⟩ := okTx_d ot
  have v3 := (kM_d (o.2.1 j hj)).1
  unfold b109_8
  rw [show (3 : Int32) = Int32.ofNat 3 from rfl, if_neg (by rw [i_le (by decide) (by omega)]; omega)]
  unfold b109_13
  rw [nn_some, mb_mr]
  refine tot_bind d2 ?_
  rw [nn_some, mb_mr]
  refine tot_bind (okTx_tp ot hj) ?_
  unfold Zsettle1 at k
  cases hp : tp (s_ti S t) j
  · rw [hp] at k
    rw [if_neg (by decide)]
    unfold b109_22 b109_52
    rw [i_add1]
    exact k h (gw_le gw_refl (by decide)) o
  · rw [hp] at k
    rw [if_pos (by decide)]
    unfold b109_25
    cases b
    · rw [if_pos (by decide)]
      unfold b109_42 b109_52
      rw [nn_some, mb_mr]
      refine tot_bind z0 ?_
      rw [nn_some, mb_mr]
      refine tot_bind (cr_mem o hj) ?_
      rw [nn_some, mb_mr]
      refine tot_bind v3 (tot_mb (cr_abort hF hj o w t1 t2 hbg wf) (fun _ h1 q1 => ?_))
      rw [i_add1]
      exact k h1 (gw_le (gw_M hj q1.1) (by decide)) q1.2
    · rw [if_neg (by decide)]
      unfold b109_29 b109_52
      rw [nn_some, mb_mr]
      refine tot_bind z0 ?_
      rw [nn_some, mb_mr]
      refine tot_bind (cr_mem o hj) ?_
      rw [nn_some, mb_mr]
      refine tot_bind v3 (tot_mb (cr_commit hF hj o w t1 t2 hbg wf g) (fun _ h1 q1 => ?_))
      rw [i_add1]
      exact k h1 (gw_M hj q1.1) q1.2
theorem c109_tot (hF : 1000 ≤ F) (t1 : 1 ≤ t) (t2 : t ≤ s_bg S) (hbg : s_bg S ≤ 512) (wf : wfT (s_ti S t)) (o : CR h S T) (w : opOK S) (g : hb 40 h) : tot (m109 F 0 (some (T t))) h (fun _ h' => gw 18 h h' ∧ CR h' (Zsettle S t) T) := by
  obtain ⟨F', rfl⟩ : ∃ k, F = k + 4 := ⟨F - 4, by omega⟩
  obtain ⟨z0, z1, z2, z3, z4, zv⟩ := cr_0 o
  unfold m109 b109_0 Zsettle
  dsimp only
  rw [nn_some, mb_mr]
  refine tot_bind zv (tot_bind (c110_eq hF o t1 t2 hbg) ?_)
  generalize zdec (s_rm S) (s_ti S t) t = b
  refine c109_step (j := 0) hF (by decide) t1 t2 hbg wf o w (hb_le g (by decide)) (fun h1 G1 o1 => ?_)
  obtain ⟨e1, e2⟩ := ti_s1 (t := t) (m := 0) (b := b) (S := S)
  refine c109_step (j := 1) hF (by decide) t1 (by rw [e2]; exact t2) (by rw [e2]; exact hbg) (by rw [e1]; exact wf) o1 (opOK_s1 w) (hb_gw G1 (hb_le g (by decide))) (fun h2 G2 o2 => ?_)
  obtain ⟨e3, e4⟩ := ti_s1 (t := t) (m := 1) (b := b) (S := Zsettle1 t 0 b S)
  have G12 : gw 12 h h2 := gw_trans (k1 := 6) (k2 := 6) G1 G2
  refine c109_step (j := 2) hF (by decide) t1 (by rw [e4, e2]; exact t2) (by rw [e4, e2]; exact hbg) (by rw [e3, e1]; exact wf) o2 (opOK_s1 (opOK_s1 w)) (hb_gw G12 (hb_le g (by decide))) (fun h3 G3 o3 => ?_)
  unfold b109_8
  rw [if_pos (by decide)]
  exact tot_mr ⟨gw_trans (k1 := 12) (k2 := 6) G12 G3, o3⟩
theorem zlow_b {rm : Nat → Nat → Int32} {m : Nat} : ∀ (q t : Nat), 1 ≤ t → zlow rm m q t = 0 ∨ (t ≤ zlow rm m q t ∧ zlow rm m q t < t + q ∧ rm (zlow rm m q t) m = 1) := by
  intro q
  induction q with
  | zero => intro t _; exact Or.inl rfl
  | succ q ih =>
    intro t h
    rw [zlow]
    by_cases e : rm t m = 1
    · rw [if_pos e]; exact Or.inr ⟨Nat.le_refl _, by omega, e⟩
    · rw [if_neg e]
      rcases ih (t + 1) (by omega) with a | a
      · exact Or.inl a
      · exact Or.inr ⟨by omega, by omega, a.2.2⟩
def Xrecover (i : Int32) (S : zS) : Int32 × zS := if (0 ≤ i ∧ i < 3) ∧ s_dn S i.toNatClampNeg = false then (if (Zrecover S i.toNatClampNeg).1 = 0 then -1 else Int32.ofNat (Zrecover S i.toNatClampNeg).1, (Zrecover S i.toNatClampNeg).2) else (-1, S)
theorem c105_tot (hF : 1000 ≤ F) (o : CR h S T) (w : wS S) (hbg : s_bg S ≤ 512) (g : hb 400 h) : tot (m105 F 0 i) h (fun r h' => r = (Xrecover i S).1 ∧ (∃ T', CR h' (Xrecover i S).2 T') ∧ gw 100 h h') := by
  obtain ⟨z0, z1, z2, z3, z4, zv⟩ := cr_0 o
  unfold m105 b105_0 Xrecover
  refine tot_bind c106_eq ?_
  by_cases q1 : 0 ≤ i ∧ i < 3
  · rw [decide_eq_true q1, if_neg (by decide)]
    obtain ⟨hm, ei⟩ := i_nat_lt (n := 3) (by decide) q1
    generalize i.toNatClampNeg = m at *
    subst ei
    obtain ⟨v3, _, _, _, _, m4⟩ := kM_d (o.2.1 m hm)
    unfold b105_7
    rw [nn_some, mb_mr]
    refine tot_bind z0 ?_
    rw [nn_some, mb_mr]
    refine tot_bind (cr_mem o hm) ?_
    rw [nn_some, mb_mr]
    refine tot_bind m4 ?_
    cases hd : s_dn S m
    · rw [if_pos (by decide), if_pos ⟨q1, rfl⟩]
      unfold b105_21
      rw [nn_some, mb_mr]
      refine tot_bind z0 ?_
      rw [nn_some, mb_mr]
      refine tot_bind (cr_mem o hm) (tot_bind z4 ?_)
      rw [nn_some, mb_mr]
      refine tot_bind v3 (tot_bind (c107_eq hF (o.2.1 m hm) (by omega)) ?_)
      unfold Zrecover
      dsimp only
      have zb := zlow_b (rm := s_rm S) (m := m) (s_bg S) 1 (Nat.le_refl 1)
      generalize zlow (s_rm S) m (s_bg S) 1 = t at *
      by_cases t0 : t = 0
      · rw [if_pos (by rw [t0]; rfl), if_pos (Or.inl t0), if_pos rfl]
        exact tot_mr ⟨rfl, ⟨T, o⟩, gw_le gw_refl (by decide)⟩
      · obtain ⟨t1, t2, _⟩ := zb.resolve_left t0
        rw [if_neg (i_ne0 (by omega) t0)]
        have lt : lr 106 36 (Int32.ofNat t) h = some (some (T t), h) := by
          obtain ⟨b1, b2, b3⟩ := o.2.2.2.1
          rw [ok_lr b1 (i_nn (by omega)) (by rw [i_nat (by omega), b2]; omega), i_nat (by omega), b3 t t1 (by omega)]
        unfold b105_39
        rw [nn_some, mb_mr]
        refine tot_bind z3 ?_
        rw [nn_some, mb_mr]
        refine tot_bind lt ?_
        rw [if_neg (by simp)]
        unfold b105_48
        rw [nn_some, mb_mr]
        refine tot_bind z3 ?_
        rw [nn_some, mb_mr]
        refine tot_bind lt (tot_bind zv (tot_bind (c108_eq hF o t1 (by omega)) ?_))
        by_cases qd : t = 0 ∨ (tp (s_ti S t) 0 && s_dn S 0) = true ∨ (tp (s_ti S t) 1 && s_dn S 1) = true ∨ (tp (s_ti S t) 2 && s_dn S 2) = true
        · have e : ((tp (s_ti S t) 0 && s_dn S 0) || (tp (s_ti S t) 1 && s_dn S 1) || (tp (s_ti S t) 2 && s_dn S 2)) = true := by
            rcases qd with q | q | q | q
            · exact absurd q t0
            · rw [q]; rfl
            · rw [q, Bool.or_true]; rfl
            · rw [q, Bool.or_true]
          rw [e, if_pos qd, if_neg (by decide), if_pos rfl]
          exact tot_mr ⟨rfl, ⟨T, o⟩, gw_le gw_refl (by decide)⟩
        · have e : ((tp (s_ti S t) 0 && s_dn S 0) || (tp (s_ti S t) 1 && s_dn S 1) || (tp (s_ti S t) 2 && s_dn S 2)) = false := by
            have n0 : (tp (s_ti S t) 0 && s_dn S 0) = false := by simpa using fun q => qd (Or.inr (Or.inl q))
            have n1 : (tp (s_ti S t) 1 && s_dn S 1) = false := by simpa using fun q => qd (Or.inr (Or.inr (Or.inl q)))
            have n2 : (tp (s_ti S t) 2 && s_dn S 2) = false := by simpa using fun q => qd (Or.inr (Or.inr (Or.inr q)))
            rw [n0, n1, n2]; rfl
          rw [e, if_neg qd, if_pos (by decide), if_neg t0]
          unfold b105_63
          rw [nn_some, mb_mr]
          refine tot_bind z3 ?_
          rw [nn_some, mb_mr]
          refine tot_bind lt (tot_bind zv (tot_mb (c109_tot hF t1 (by omega) hbg (w.2.2.1 t t1 (by omega)).2 o w.1 (hb_le g (by decide))) (fun _ h1 r1 => ?_)))
          exact tot_mr ⟨rfl, ⟨T, r1.2⟩, gw_le r1.1 (by decide)⟩
    · rw [if_neg (by decide), if_neg (fun z => by cases z.2)]
      exact tot_mr ⟨rfl, ⟨T, o⟩, gw_le gw_refl (by decide)⟩
  · rw [decide_eq_false q1, if_pos (by decide), if_neg (fun z => q1 z.1)]
    exact tot_mr ⟨rfl, ⟨T, o⟩, gw_le gw_refl (by decide)⟩
end RECO
