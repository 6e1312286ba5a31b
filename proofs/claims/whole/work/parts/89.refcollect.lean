/-! The reference: collect. -/
section RCOL
variable {h h1 : xv_H} {F i j x p q v s a b c n0 L L2 n : Nat} {nd : Int64} {N : zN} {k va vb vd ver : Int32} {S : zS} {P : List zI} {z : zC} {D : zD}
theorem r127_eq {x lo hi : Int32} : m127 F x lo hi h = some (b2i (decide (lo ≤ x ∧ x ≤ hi)), h) := by
  unfold m127 b127_0
  by_cases a : x < lo
  · rw [if_pos a, decide_eq_false (fun q => (i_nlt.mpr q.1) a)]; rfl
  · rw [if_neg a]
    unfold b127_5
    by_cases b : hi < x
    · rw [if_pos b, decide_eq_false (fun q => (i_nlt.mpr q.2) b)]; rfl
    · rw [if_neg b, decide_eq_true ⟨i_nlt.mp a, i_nlt.mp b⟩]; rfl
theorem dropI_cons {l : List Int32} {i : Nat} (h : i < l.length) : l.drop i = l.getD i 0 :: l.drop (i + 1) := by
  rw [List.drop_eq_getElem_cons h, List.getD_eq_getElem?_getD, List.getElem?_eq_getElem h]; rfl
theorem rd_lf (o : rC h c z L) (hL : 1 ≤ L) (hs : ¬ c_st z = 0) : Hei h 74 c = Int32.ofNat (c_lf z).length := rv_at o (by unfold rv; simp [hs, hL])
/-- a leaf is noted -/
theorem rs_lfS {a : Nat} {ver : Int32} (hc : c < 2) (o : rC h c z 3) (hs : ¬ c_st z = 0) (h6 : (c_lf z).length < 6) : agC c h (Uei (Uei (Uei h 75 (6 * c + (c_lf z).length) (Int32.ofNat a)) 76 (6 * c + (c_lf z).length) ver) 74 c (Int32.ofNat ((c_lf z).length + 1))) ∧ rC (Uei (Uei (Uei h 75 (6 * c + (c_lf z).length) (Int32.ofNat a)) 76 (6 * c + (c_lf z).length) ver) 74 c (Int32.ofNat ((c_lf z).length + 1))) c (c_lf_ z (c_lf z ++ [(a, ver)])) 3 := by
  obtain ⟨o1, o2, o3, o4⟩ := o
  refine ⟨ag_trans (ag_trans (ag_ei (by decide) (fun q => q (by unfold KC; omega))) (ag_ei (by decide) (fun q => q (by unfold KC; omega)))) (ag_ei (by decide) (fun q => q (by unfold KC; omega))), fun A x hx => ?_, fun b hb => ?_, fun _ => ?_, fun _ => ?_⟩
  · have rr := rv_row hx
    rw [Hei_Uei]
    by_cases q : A = 74
    · rw [if_pos ⟨q, rfl⟩]
      subst q
      unfold rv at hx
      simp [c_st_lf, c_lf_lf, hs] at hx
      rw [← hx, i_add1]
    · rw [if_neg (fun z => q z.1), Hei_Uei, if_neg (by omega), Hei_Uei, if_neg (by omega)]
      refine o1 A x ?_
      rw [← hx]
      unfold rv
      simp only [c_hi_lf, c_st_lf, c_jb_lf, c_fu_lf, c_go_lf, c_fr_lf, c_up_lf, c_wa_lf, c_re_lf, c_fo_lf, c_op_lf, c_an_lf, c_sg_lf, c_pa_lf, q, if_false]
  · rw [c_cp_lf]
    have := o2 b hb
    unfold rcp at *
    rw [Hei_Uei, if_neg (by omega), Hei_Uei, if_neg (by omega), Hei_Uei, if_neg (by omega), Hel_Uei, Hel_Uei, Hel_Uei]
    exact this
  · rw [c_pa_lf]
    refine ⟨(o3 (by decide)).1, fun j hj => ?_⟩
    rw [Hei_Uei, if_neg (by omega), Hei_Uei, if_neg (by omega), Hei_Uei, if_neg (by omega)]
    exact (o3 (by decide)).2 j hj
  · rw [c_lf_lf]
    have hlen : (c_lf z ++ [(a, ver)]).length = (c_lf z).length + 1 := by rw [List.length_append]; rfl
    rw [hlen]
    refine ⟨by omega, fun j hj => ?_⟩
    have g75 : ∀ j, Hei (Uei (Uei (Uei h 75 (6 * c + (c_lf z).length) (Int32.ofNat a)) 76 (6 * c + (c_lf z).length) ver) 74 c (Int32.ofNat ((c_lf z).length + 1))) 75 (6 * c + j) = if j = (c_lf z).length then Int32.ofNat a else Hei h 75 (6 * c + j) := by
      intro j
      rw [Hei_Uei, if_neg (by omega), Hei_Uei, if_neg (by omega), Hei_Uei]
      by_cases e : j = (c_lf z).length
      · rw [if_pos ⟨rfl, by omega⟩, if_pos e]
      · rw [if_neg (by omega), if_neg e]
    have g76 : ∀ j, Hei (Uei (Uei (Uei h 75 (6 * c + (c_lf z).length) (Int32.ofNat a)) 76 (6 * c + (c_lf z).length) ver) 74 c (Int32.ofNat ((c_lf z).length + 1))) 76 (6 * c + j) = if j = (c_lf z).length then ver else Hei h 76 (6 * c + j) := by
      intro j
      rw [Hei_Uei, if_neg (by omega), Hei_Uei]
      by_cases e : j = (c_lf z).length
      · rw [if_pos ⟨rfl, by omega⟩, if_pos e]
      · rw [if_neg (by omega), if_neg e, Hei_Uei, if_neg (by omega)]
    rw [g75, g76]
    by_cases e : j = (c_lf z).length
    · rw [if_pos e, if_pos e]
      have : (c_lf z ++ [(a, ver)]).getD j (0, 0) = (a, ver) := by rw [e, List.getD_eq_getElem?_getD, List.getElem?_append_right (Nat.le_refl _)]; simp
      rw [this]; exact ⟨rfl, rfl⟩
    · rw [if_neg e, if_neg e]
      have : (c_lf z ++ [(a, ver)]).getD j (0, 0) = (c_lf z).getD j (0, 0) := by rw [List.getD_eq_getElem?_getD, List.getD_eq_getElem?_getD, List.getElem?_append_left (by omega)]
      rw [this]
      exact (o4 (by decide)).2 j (by omega)
/-- the sum -/
theorem r164_sum (hc : c < 2) (od : decN nd va vb vd N) (k2 : ¬ N.1 = 2) {Q : Unit → xv_H → Prop} : ∀ (f i : Nat) (r : Bool × Int32) (h : xv_H), i ≤ N.2.2.2.1.length → N.2.2.2.1.length - i < f → RX h (s_cl_ S (fset (s_cl S) c (c_re_ (c_fo_ z r.1) r.2))) n0 [] c 3 → (∀ h' r', r' = zsum (c_fr z) (c_up z) (N.2.2.2.1.drop i) (N.2.2.2.2.drop i) r → agR h h' → RX h' (s_cl_ S (fset (s_cl S) c (c_re_ (c_fo_ z r'.1) r'.2))) n0 [] c 3 → tot (b164_143 F (some 37) (Int32.ofNat c) nd) h' Q) → tot (b164_77 F f (some 37) (Int32.ofNat c) nd va vb vd (Int32.ofNat i)) h Q := by
  have hl := dec_len od
  have el := od.2.1
  have o6 := od.2.2.2.2.2
  rw [if_neg k2] at o6
  intro f
  induction f with
  | zero => intro i r h h1 h2; omega
  | succ f ih =>
    intro i r h h1 h2 o k
    have rf := o.1
    have rc := o.2.2.2.2.2.2.2.1
    have ecl : s_cl (s_cl_ S (fset (s_cl S) c (c_re_ (c_fo_ z r.1) r.2))) c = c_re_ (c_fo_ z r.1) r.2 := by rw [s_cl_cl, fset_eq, if_pos rfl]
    rw [ecl] at rc
    unfold b164_77
    refine tot_bind r146_eq ?_
    rw [← el]
    by_cases e : N.2.2.2.1.length ≤ i
    · rw [if_pos (by rw [i_le (by omega) (by omega)]; exact e)]
      refine k h r ?_ (ag_R (K := fun _ _ => False) ag_refl) o
      rw [List.drop_of_length_le e]; rfl
    · rw [if_neg (by rw [i_le (by omega) (by omega)]; exact e)]
      unfold b164_86
      refine tot_bind (r148_eq (by omega)) ?_
      rw [← od.2.2.2.2.1 i (by omega), nn_some, mb_mr]
      have e64 : Hei h 64 c = c_fr z := by
        have := rv_at rc (A := 64) (x := c_fr z) (by unfold rv; simp [c_fr_re, c_fr_fo])
        exact this
      have e65 : Hei h 65 c = c_up z := by
        have := rv_at rc (A := 65) (x := c_up z) (by unfold rv; simp [c_up_re, c_up_fo])
        exact this
      refine tot_bind (g929 rf) ?_
      rw [nn_some, mb_mr]
      refine tot_bind (l64 rf hc) (tot_bind (g930 rf) ?_)
      rw [nn_some, mb_mr]
      refine tot_bind (l65 rf hc) (tot_bind r127_eq ?_)
      rw [e64, e65]
      have ez : zsum (c_fr z) (c_up z) (N.2.2.2.1.drop i) (N.2.2.2.2.drop i) r = zsum (c_fr z) (c_up z) (N.2.2.2.1.drop (i + 1)) (N.2.2.2.2.drop (i + 1)) (if c_fr z ≤ N.2.2.2.1.getD i 0 ∧ N.2.2.2.1.getD i 0 ≤ c_up z then (true, r.2 + N.2.2.2.2.getD i 0) else r) := by
        rw [dropI_cons (l := N.2.2.2.1) (by omega), dropI_cons (l := N.2.2.2.2) (by omega)]; rfl
      by_cases q : c_fr z ≤ N.2.2.2.1.getD i 0 ∧ N.2.2.2.1.getD i 0 ≤ c_up z
      · rw [decide_eq_true q, if_neg (by decide)]
        rw [if_pos q] at ez
        unfold b164_110 b164_137
        rw [nn_some, mb_mr]
        refine tot_bind (g933 rf) ?_
        rw [nn_some, mb_mr]
        refine tot_bind (s68 rf hc (Or.inr rfl)) ?_
        obtain ⟨e1, rc1⟩ := rs_fo true rc
        have e1' : b2i true = 1 := rfl
        rw [e1'] at e1 rc1
        have f67 : Hei (Uei h 68 c 1) 67 c = r.2 := by
          have := rv_at rc1 (A := 67) (x := r.2) (by unfold rv; simp [c_re_fo, c_re_re])
          exact this
        generalize Uei h 68 c 1 = h1 at *
        have rf1 := ag_rF e1 rf
        refine tot_bind (g932 rf1) ?_
        rw [nn_some, mb_mr]
        refine tot_bind (l67 rf1 hc) (tot_bind (r165_eq (by omega)) ?_)
        rw [f67]
        refine tot_bind (s67 rf1 hc) ?_
        rw [← o6.2 i (by omega)]
        obtain ⟨e2, rc2⟩ := rs_re (r.2 + N.2.2.2.2.getD i 0) rc1
        generalize Uei h1 67 c (r.2 + N.2.2.2.2.getD i 0) = h2 at *
        have ezz : c_re_ (c_fo_ (c_re_ (c_fo_ z r.1) r.2) true) (r.2 + N.2.2.2.2.getD i 0) = c_re_ (c_fo_ z true) (r.2 + N.2.2.2.2.getD i 0) := c_fore ..
        rw [ezz] at rc2
        have o2 := RX_cl hc (ag_trans e1 e2) o rc2
        rw [s_cl_fset2] at o2
        rw [i_add1]
        refine ih (i + 1) (true, r.2 + N.2.2.2.2.getD i 0) h2 (by omega) (by omega) o2 (fun h' r' hr e3 o3 => ?_)
        exact k h' r' (by rw [ez]; exact hr) (agR_trans (ag_R (ag_trans e1 e2)) e3) o3
      · rw [decide_eq_false q, if_pos (by decide)]
        rw [if_neg q] at ez
        unfold b164_137
        rw [i_add1]
        refine ih (i + 1) r h (by omega) (by omega) o (fun h' r' hr e3 o3 => ?_)
        exact k h' r' (by rw [ez]; exact hr) e3 o3
theorem map_take {l : List (Nat × Int32)} {j : Nat} (h : j < l.length) : (l.take (j + 1)).map (fun y => ((2 : Int32), y.1, y.2, z0N)) = (l.take j).map (fun y => ((2 : Int32), y.1, y.2, z0N)) ++ [(2, (l.getD j (0, 0)).1, (l.getD j (0, 0)).2, z0N)] := by
  have e : l.take (j + 1) = l.take j ++ [l.getD j (0, 0)] := by
    rw [List.take_add_one, List.getElem?_eq_getElem h, List.getD_eq_getElem?_getD, List.getElem?_eq_getElem h]; rfl
  rw [e, List.map_append]; rfl
theorem no234 (q : (2 : Int32) = 3 ∨ (2 : Int32) = 4) : False := by rcases q with q | q <;> exact absurd q (by decide)
/-- the CHECKs -/
theorem r164_chk (hF : 1000 ≤ F) (hc : c < 2) (hbg : s_bg S < 512) (hn : n0 + 6 ≤ 1600) (hs : ¬ c_st (s_cl S c) = 0) (hlf : ∀ i, i < (c_lf (s_cl S c)).length → ((c_lf (s_cl S c)).getD i (0, 0)).1 < 24) : ∀ (f j : Nat) (h : xv_H), j ≤ (c_lf (s_cl S c)).length → (c_lf (s_cl S c)).length - j < f → wfT (((c_lf (s_cl S c)).take j).map (fun y => ((2 : Int32), y.1, y.2, z0N))) → RX h S n0 (((c_lf (s_cl S c)).take j).map (fun y => ((2 : Int32), y.1, y.2, z0N))) c 3 → tot (b164_195 F f (some 37) (Int32.ofNat c) (Int32.ofNat j)) h (fun _ h' => agR h h' ∧ EN h' S c (s_cl S c, some ((c_lf (s_cl S c)).map (fun y => ((2 : Int32), y.1, y.2, z0N)), 2)) n0) := by
  intro f
  induction f with
  | zero => intro j h h1 h2; omega
  | succ f ih =>
    intro j h h1 h2 wf o
    have rf := o.1
    have rc := o.2.2.2.2.2.2.2.1
    obtain ⟨l6, l7⟩ := rc.2.2.2 (by decide)
    have e74 := rd_lf rc (by decide) hs
    unfold b164_195
    rw [nn_some, mb_mr]
    refine tot_bind (g939 rf) ?_
    rw [nn_some, mb_mr]
    refine tot_bind (l74 rf hc) ?_
    rw [e74]
    by_cases q : (c_lf (s_cl S c)).length ≤ j
    · rw [if_pos (by rw [i_le (by omega) (by omega)]; exact q)]
      rw [List.take_of_length_le q] at o wf
      unfold b164_245
      rw [nn_some, mb_mr]
      refine tot_bind (g939 rf) ?_
      rw [nn_some, mb_mr]
      refine tot_bind (l74 rf hc) ?_
      rw [e74]
      have hlen : ((c_lf (s_cl S c)).map (fun y => ((2 : Int32), y.1, y.2, z0N))).length = (c_lf (s_cl S c)).length := List.length_map ..
      have t := r160_tot (F := F) (sg := 2) hF hc o hbg wf (by rw [hlen]; exact l6) (by rw [hlen]; omega)
      rw [hlen] at t
      refine tot_bind (rF_vc rf) (tot_mb t (fun _ h2 q2 => tot_mr ⟨q2.1, EN_3 ?_⟩))
      have ed : dlen (s_cl S c, some ((c_lf (s_cl S c)).map (fun y => ((2 : Int32), y.1, y.2, z0N)), 2)) = (c_lf (s_cl S c)).length := hlen
      rw [ed]
      exact q2.2
    · rw [if_neg (by rw [i_le (by omega) (by omega)]; exact q)]
      unfold b164_206
      rw [nn_some, mb_mr]
      refine tot_bind (g940 rf) ?_
      rw [nn_some, mb_mr, ix6]
      refine tot_bind (l75 rf (by omega)) (tot_bind (g941 rf) ?_)
      rw [nn_some, mb_mr]
      refine tot_bind (l76 rf (by omega)) (tot_bind (rF_vc rf) ?_)
      rw [(l7 j (by omega)).1, (l7 j (by omega)).2]
      have hlt : (((c_lf (s_cl S c)).take j).map (fun y => ((2 : Int32), y.1, y.2, z0N))).length ≤ 6 := by rw [List.length_map, List.length_take]; omega
      have ha := hlf j (by omega)
      refine tot_mb (r156_tot (it := (2, ((c_lf (s_cl S c)).getD j (0, 0)).1, ((c_lf (s_cl S c)).getD j (0, 0)).2, z0N)) o (by rw [List.length_map, List.length_take]; omega) (Or.inr (Or.inl rfl)) ha (fun _ => rfl) (fun q => (no234 q).elim)) (fun _ h2 q2 => ?_)
      obtain ⟨e2, o2⟩ := q2
      rw [i_add1]
      have em := map_take (l := c_lf (s_cl S c)) (j := j) (by omega)
      rw [← em] at o2
      refine tot_mono (ih (j + 1) h2 (by omega) (by omega) (by rw [em]; exact wfT_app wf (Or.inr (Or.inl rfl)) ha) o2) (fun _ h3 q3 => ⟨agR_trans e2 q3.1, q3.2⟩)
theorem r164_tot (hF : 1000 ≤ F) (hc : c < 2) (o : RX h S n0 [] c 3) (hbg : s_bg S < 512) (hn : n0 + 6 ≤ 1600) (w : okW (s_cl S c)) (h1 : 1 ≤ (c_pa (s_cl S c)).length) (hz : zlast (c_pa (s_cl S c)) < 24) (od : decN nd va vb vd N) (k1 : N.1 = 1) (hlf : ∀ i, i < (c_lf (s_cl S c)).length → ((c_lf (s_cl S c)).getD i (0, 0)).1 < 24) : tot (m164 F 37 (Int32.ofNat c) ver nd va vb vd) h (fun _ h' => agR h h' ∧ EN h' S c (Dcollect (s_cl S c) (ver, N)) n0) := by
  have rf := o.1
  have rc := o.2.2.2.2.2.2.2.1
  have k2 : ¬ N.1 = 2 := by rw [k1]; decide
  obtain ⟨l6, l7⟩ := rc.2.2.2 (by decide)
  have e74 := rd_lf rc (by decide) w.1
  have hl := dec_len od
  unfold m164 b164_0 Dcollect
  rw [nn_some, mb_mr]
  refine tot_bind (g939 rf) ?_
  rw [nn_some, mb_mr]
  refine tot_bind (l74 rf hc) ?_
  rw [e74]
  by_cases q6 : (c_lf (s_cl S c)).length = 6
  · rw [if_neg (fun z => z (by rw [q6]; rfl)), if_pos (by omega)]
    unfold b164_11
    rw [nn_some, mb_mr]
    refine tot_bind (g926 rf) ?_
    rw [nn_some, mb_mr]
    refine tot_bind (s61 rf hc) ?_
    obtain ⟨e1, rc1⟩ := rs_st 4 w.1 (by decide) rc
    generalize Uei h 61 c 4 = h2 at *
    have rf1 := ag_rF e1 rf
    refine tot_bind (g932 rf1) ?_
    rw [nn_some, mb_mr]
    refine tot_bind (s67 rf1 hc) (tot_mr ?_)
    have lv4 : lev (c_st_ (s_cl S c) 4) = 1 := by unfold lev; rw [c_st_st]; rfl
    obtain ⟨e2, rc2⟩ := rC_set (A := 67) (x := 0) (z2 := c_st_ (s_cl S c) 4) (L2 := 1) (by decide) (rC_le (L2 := 1) (by decide) rc1) (fun B y _ hy => hy) (fun y hy => by unfold rv at hy; simp at hy) rfl (fun q => absurd q (by decide)) (fun q => absurd q (by decide))
    refine ⟨ag_R (ag_trans e1 e2), EN_none hc (ag_trans e1 e2) o ?_⟩
    rw [lv4]; exact rc2
  · have n6 : ¬ Int32.ofNat (c_lf (s_cl S c)).length = 6 := ofNat_ne (b := 6) (by omega) (by decide) q6
    rw [if_pos n6, if_neg (by omega)]
    dsimp only
    unfold b164_26
    rw [nn_some, mb_mr]
    refine tot_bind (g940 rf) (tot_bind (g939 rf) ?_)
    rw [nn_some, mb_mr]
    refine tot_bind (l74 rf hc) (tot_bind (rF_vc rf) (tot_bind (r145_eq rf hc rc h1) ?_))
    rw [e74, nn_some, mb_mr, ix6]
    refine tot_bind (s75 rf (by omega)) ?_
    obtain ⟨e3, rc3⟩ := rs_lfS (a := zlast (c_pa (s_cl S c))) (ver := ver) hc rc w.1 (by omega)
    have a1 : agC c h (Uei h 75 (6 * c + (c_lf (s_cl S c)).length) (Int32.ofNat (zlast (c_pa (s_cl S c))))) := ag_ei (by decide) (fun q => q (by unfold KC; omega))
    have f1 : Hei (Uei h 75 (6 * c + (c_lf (s_cl S c)).length) (Int32.ofNat (zlast (c_pa (s_cl S c))))) 74 c = Int32.ofNat (c_lf (s_cl S c)).length := by rw [Hei_Uei, if_neg (by omega)]; exact e74
    have rf1 := ag_rF a1 rf
    refine tot_bind (g941 rf1) (tot_bind (g939 rf1) ?_)
    rw [nn_some, mb_mr]
    refine tot_bind (l74 rf1 hc) ?_
    rw [f1, nn_some, mb_mr, ix6]
    refine tot_bind (s76 rf1 (by omega)) ?_
    have a2 : agC c (Uei h 75 (6 * c + (c_lf (s_cl S c)).length) (Int32.ofNat (zlast (c_pa (s_cl S c))))) (Uei (Uei h 75 (6 * c + (c_lf (s_cl S c)).length) (Int32.ofNat (zlast (c_pa (s_cl S c))))) 76 (6 * c + (c_lf (s_cl S c)).length) ver) := ag_ei (by decide) (fun q => q (by unfold KC; omega))
    have f2 : Hei (Uei (Uei h 75 (6 * c + (c_lf (s_cl S c)).length) (Int32.ofNat (zlast (c_pa (s_cl S c))))) 76 (6 * c + (c_lf (s_cl S c)).length) ver) 74 c = Int32.ofNat (c_lf (s_cl S c)).length := by rw [Hei_Uei, if_neg (by omega)]; exact f1
    have rf2 := ag_rF a2 rf1
    refine tot_bind (g939 rf2) ?_
    rw [nn_some, mb_mr]
    refine tot_bind (l74 rf2 hc) ?_
    rw [f2, i_add1]
    refine tot_bind (s74 rf2 hc) ?_
    generalize Uei (Uei (Uei h 75 (6 * c + (c_lf (s_cl S c)).length) (Int32.ofNat (zlast (c_pa (s_cl S c))))) 76 (6 * c + (c_lf (s_cl S c)).length) ver) 74 c (Int32.ofNat ((c_lf (s_cl S c)).length + 1)) = h3 at *
    have o3 := RX_cl hc e3 o rc3
    generalize hz1 : c_lf_ (s_cl S c) (c_lf (s_cl S c) ++ [(zlast (c_pa (s_cl S c)), ver)]) = z1 at *
    have z1fr : c_fr z1 = c_fr (s_cl S c) := by rw [← hz1, c_fr_lf]
    have z1up : c_up z1 = c_up (s_cl S c) := by rw [← hz1, c_up_lf]
    have z1fo : c_fo z1 = c_fo (s_cl S c) := by rw [← hz1, c_fo_lf]
    have z1re : c_re z1 = c_re (s_cl S c) := by rw [← hz1, c_re_lf]
    have o3' : RX h3 (s_cl_ S (fset (s_cl S) c (c_re_ (c_fo_ z1 (c_fo (s_cl S c), c_re (s_cl S c)).1) (c_fo (s_cl S c), c_re (s_cl S c)).2))) n0 [] c 3 := by
      have : c_re_ (c_fo_ z1 (c_fo (s_cl S c))) (c_re (s_cl S c)) = z1 := by rw [← z1fo, ← z1re]; exact c_fore_id z1
      show RX h3 (s_cl_ S (fset (s_cl S) c (c_re_ (c_fo_ z1 (c_fo (s_cl S c))) (c_re (s_cl S c))))) n0 [] c 3
      rw [this]; exact o3
    refine r164_sum (z := z1) hc od k2 F 0 (c_fo (s_cl S c), c_re (s_cl S c)) h3 (by omega) (by omega) o3' (fun h4 r hr e4 o4 => ?_)
    rw [List.drop_zero, List.drop_zero, z1fr, z1up] at hr
    rw [← hr]
    clear hr
    generalize hd : c_re_ (c_fo_ z1 r.1) r.2 = d at *
    have ecl : s_cl (s_cl_ S (fset (s_cl S) c d)) c = d := by rw [s_cl_cl, fset_eq, if_pos rfl]
    have dst : c_st d = c_st (s_cl S c) := by rw [← hd, c_st_re, c_st_fo, ← hz1, c_st_lf]
    have dup : c_up d = c_up (s_cl S c) := by rw [← hd, c_up_re, c_up_fo, ← hz1, c_up_lf]
    have dlf : c_lf d = c_lf (s_cl S c) ++ [(zlast (c_pa (s_cl S c)), ver)] := by rw [← hd, c_lf_re, c_lf_fo, ← hz1, c_lf_lf]
    have dhi : c_hi d = c_hi (s_cl S c) := by rw [← hd, c_hi_re, c_hi_fo, ← hz1, c_hi_lf]
    have dcp : c_cp d = c_cp (s_cl S c) := by rw [← hd, c_cp_re, c_cp_fo, ← hz1, c_cp_lf]
    have djb : c_jb d = c_jb (s_cl S c) := by rw [← hd, c_jb_re, c_jb_fo, ← hz1, c_jb_lf]
    have e04 : agR h h4 := agR_trans (ag_R e3) e4
    have rf4 := o4.1
    have rc4 := o4.2.2.2.2.2.2.2.1
    rw [ecl] at rc4
    have f65 : Hei h4 65 c = c_up (s_cl S c) := by rw [← dup]; exact rv_at rc4 (by unfold rv; simp)
    unfold b164_143
    refine tot_bind r154_eq ?_
    rw [← od.2.2.2.1, nn_some, mb_mr]
    refine tot_bind (g930 rf4) ?_
    rw [nn_some, mb_mr]
    refine tot_bind (l65 rf4 hc) ?_
    rw [f65]
    by_cases qh : N.2.2.1 ≤ c_up (s_cl S c)
    · rw [if_neg (by rw [i_nlt]; exact qh), if_pos qh]
      unfold b164_156
      rw [nn_some, mb_mr]
      refine tot_bind (g928 rf4) (tot_bind r154_eq ?_)
      rw [← od.2.2.2.1, nn_some, mb_mr]
      refine tot_bind (s63 rf4 hc) ?_
      obtain ⟨e5, rc5⟩ := rs_go N.2.2.1 rc4
      generalize Uei h4 63 c N.2.2.1 = h5 at *
      have o5 := RX_cl hc e5 o4 rc5
      rw [s_cl_fset2] at o5
      have ecl5 : s_cl (s_cl_ S (fset (s_cl S) c (c_go_ d N.2.2.1))) c = c_go_ d N.2.2.1 := by rw [s_cl_cl, fset_eq, if_pos rfl]
      have t := r142_tot (F := F) hF hc o5 (by decide) hbg (by omega) (by rw [ecl5, c_st_go, dst]; exact w.1) (by rw [ecl5, c_hi_go, dhi]; exact w.2.1) (by rw [ecl5, c_cp_go, dcp]; exact w.2.2.1) (by rw [ecl5, c_cp_go, c_jb_go, dcp, djb]; exact w.2.2.2 _ (sub_refl _) _)
      rw [ecl5, Zbegin_cl] at t
      exact tot_bind (rF_vc o5.1) (tot_mb t (fun _ h6 q7 => tot_mr ⟨agR_trans (agR_trans e04 (ag_R e5)) q7.1, EN_3 q7.2⟩))
    · rw [if_pos (i_nle.mp qh), if_neg qh]
      have g74 := rd_lf rc4 (by decide) (by rw [dst]; exact w.1)
      have dl1 : (c_lf d).length = (c_lf (s_cl S c)).length + 1 := by rw [dlf, List.length_append]; rfl
      unfold b164_174
      rw [nn_some, mb_mr]
      refine tot_bind (g939 rf4) ?_
      rw [nn_some, mb_mr]
      refine tot_bind (l74 rf4 hc) ?_
      rw [g74]
      by_cases q1 : (c_lf d).length = 1
      · rw [if_neg (fun z => z (by rw [q1]; rfl)), if_pos q1]
        unfold b164_184
        rw [nn_some, mb_mr]
        have tt := r166_tot (F := F) hc o4 (by rw [ecl, dst]; exact w.1)
        rw [ecl] at tt
        exact tot_bind (rF_vc rf4) (tot_mb tt (fun _ h6 q7 => tot_mr ⟨agR_trans e04 q7.1, EN_of q7.2⟩))
      · have n1 : ¬ Int32.ofNat (c_lf d).length = 1 := ofNat_ne (b := 1) (by omega) (by decide) q1
        rw [if_pos n1, if_neg q1]
        unfold b164_192
        have hlf4 : ∀ i, i < (c_lf (s_cl (s_cl_ S (fset (s_cl S) c d)) c)).length → ((c_lf (s_cl (s_cl_ S (fset (s_cl S) c d)) c)).getD i (0, 0)).1 < 24 := by
          rw [ecl, dlf]
          intro i hi
          rw [List.length_append] at hi
          by_cases e : i < (c_lf (s_cl S c)).length
          · have : (c_lf (s_cl S c) ++ [(zlast (c_pa (s_cl S c)), ver)]).getD i (0, 0) = (c_lf (s_cl S c)).getD i (0, 0) := by rw [List.getD_eq_getElem?_getD, List.getD_eq_getElem?_getD, List.getElem?_append_left e]
            rw [this]; exact hlf i e
          · have e' : i = (c_lf (s_cl S c)).length := by have : [(zlast (c_pa (s_cl S c)), ver)].length = 1 := rfl; omega
            have : (c_lf (s_cl S c) ++ [(zlast (c_pa (s_cl S c)), ver)]).getD i (0, 0) = (zlast (c_pa (s_cl S c)), ver) := by rw [e', List.getD_eq_getElem?_getD, List.getElem?_append_right (Nat.le_refl _)]; simp
            rw [this]; exact hz
        have t := r164_chk (F := F) (S := s_cl_ S (fset (s_cl S) c d)) hF hc hbg hn (by rw [ecl, dst]; exact w.1) hlf4 F 0 h4 (by omega) (by rw [ecl]; omega) (by rw [List.take_zero]; exact wfT_nil) (by rw [List.take_zero]; exact o4)
        rw [ecl] at t
        exact tot_mono t (fun _ h6 q7 => ⟨agR_trans e04 q7.1, EN_of q7.2⟩)
end RCOL
