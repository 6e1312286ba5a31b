/-! The reference: refused, agreed. -/
section RHEAR
variable {h h1 : xv_H} {F i j x p q v s a b c n0 L L2 n t m : Nat} {nd : Int64} {N : zN} {k va vb vd ver : Int32} {S : zS} {P : List zI} {z : zC} {D : zD}
theorem EN_ov {z1 : zC} {ms : List zM} (q : EN h (s_ms_ (s_cl_ S (fset (s_cl S) c z1)) ms) c D n0) : EN h (s_ms_ S ms) c D n0 := by
  unfold EN at *
  rw [Zbegin_over] at q
  exact q
/-- what hearing asks of the transaction -/
def txOK (S : zS) (t : Nat) : Prop := 1 ≤ t ∧ t ≤ s_bg S ∧ s_bg S ≤ 512 ∧ wfT (s_ti S t) ∧ (s_ti S t).length ≤ 6
theorem r138_step {Q : Unit → xv_H → Prop} {q j : Nat} (hF : 1000 ≤ F) (hc : c < 2) (hj : j < 3) (hm : m < 3) (tx : txOK S t) (hn : n0 ≤ 1600) (o : RX h S n0 [] c L) (k : ∀ h', agR h h' → RX h' (s_ms_ S (if tp (s_ti S t) j && j != m then snd_ (s_ms S) (5, t, j, none) else s_ms S)) n0 [] c L → tot (b138_17 F q (some 37) (Int32.ofNat c) (Int32.ofNat m) (Int32.ofNat t) (Int32.ofNat (j + 1))) h' Q) : tot (b138_17 F (q + 1) (some 37) (Int32.ofNat c) (Int32.ofNat m) (Int32.ofNat t) (Int32.ofNat j)) h Q := by
  have rf := o.1
  obtain ⟨t1, t2, t3, t4, t5⟩ := tx
  unfold b138_17
  rw [show (3 : Int32) = Int32.ofNat 3 from rfl, if_neg (by rw [i_le (by decide) (by omega)]; omega)]
  unfold b138_23
  by_cases e : j = m
  · have eb : (j != m) = false := by simpa using e
    rw [eb, Bool.and_false] at k
    rw [if_pos (by rw [e])]
    unfold b138_48
    rw [i_add1]
    exact k h (ag_R (K := fun _ _ => False) ag_refl) o
  · have eb : (j != m) = true := by simpa using e
    rw [eb, Bool.and_true] at k
    rw [if_neg (ofNat_ne (by omega) (by omega) e)]
    unfold b138_29
    rw [nn_some, mb_mr]
    refine tot_bind (rF_vc rf) (tot_bind (r136_eq hF rf hj (by omega) t4 t5 hn (o.2.2.2.1.2 t t1 t2)) ?_)
    cases hp : tp (s_ti S t) j
    · rw [hp] at k
      rw [if_pos (by decide)]
      unfold b138_48
      rw [i_add1]
      exact k h (ag_R (K := fun _ _ => False) ag_refl) o
    · rw [hp] at k
      rw [if_neg (by decide)]
      unfold b138_39 b138_48
      rw [nn_some, mb_mr]
      refine tot_bind (rF_vc rf) (tot_mb (r132_tot rf o.2.2.2.2.2.2.1) (fun _ h1 q1 => ?_))
      rw [i_add1]
      exact k h1 (ag_R q1.2.1) (RX_q q1.2.1 o q1.2.2)
theorem snd3_none {P : Nat → Bool} {k : Int32} {t : Nat} {ms : List zM} (h : ∀ p, p < 3 → P p = false) : snd3 P k t ms = ms := by
  rw [snd3_eq, h 0 (by decide), h 1 (by decide), h 2 (by decide)]; rfl
theorem sev_one {its : List zI} (hm : m < 3) (hs : sev its = false) (hp : tp its m = true) : ∀ p, p < 3 → ¬ p = m → tp its p = false := by
  unfold sev at hs
  intro p hp3 ne
  have hs := of_decide_eq_false hs
  have hm' : m = 0 ∨ m = 1 ∨ m = 2 := by omega
  have hp' : p = 0 ∨ p = 1 ∨ p = 2 := by omega
  cases hq : tp its p
  · rfl
  · exfalso
    apply hs
    rcases hm' with rfl | rfl | rfl <;> rcases hp' with rfl | rfl | rfl <;> first | exact absurd rfl ne | (rw [hp, hq]; cases tp its 0 <;> cases tp its 1 <;> cases tp its 2 <;> decide)
theorem r138_tot (hF : 1000 ≤ F) (hc : c < 2) (hm : m < 3) (tx : txOK S t) (hop : c_op (s_cl S c) = t) (hpm : tp (s_ti S t) m = true) (hn : n0 + 3 ≤ 1600) (hbg : s_bg S < 512) (o : RX h S n0 [] c 3) (ro : runOK (s_cl S c)) : tot (m138 F 37 (Int32.ofNat c) (Int32.ofNat m)) h (fun _ h' => agR h h' ∧ EN h' (s_ms_ S (if sev (s_ti S t) then snd3 (fun p => tp (s_ti S t) p && p != m) 5 t (s_ms S) else s_ms S)) c (Dwrong (c_op_ (s_cl S c) 0)) n0) := by
  obtain ⟨F', rfl⟩ : ∃ k, F = k + 4 := ⟨F - 4, by omega⟩
  have rf := o.1
  have rc := o.2.2.2.2.2.2.2.1
  have e69 : Hei h 69 c = Int32.ofNat t := rv_at rc (by unfold rv; simp [hop])
  unfold m138 b138_0
  rw [nn_some, mb_mr]
  refine tot_bind (g934 rf) ?_
  rw [nn_some, mb_mr]
  refine tot_bind (l69 rf hc) (tot_bind (g934 rf) ?_)
  rw [e69, nn_some, mb_mr]
  refine tot_bind (s69 rf hc) ?_
  obtain ⟨e1, rc1⟩ := rs_op0 rc
  have o1 := RX_cl hc e1 o rc1
  generalize Uei h 69 c 0 = h1 at *
  have tx1 : txOK (s_cl_ S (fset (s_cl S) c (c_op_ (s_cl S c) 0))) t := tx
  refine r138_step (j := 0) hF hc (by decide) hm tx1 (by omega) o1 (fun h2 e2 o2 => ?_)
  refine r138_step (j := 1) hF hc (by decide) hm (by exact tx) (by omega) o2 (fun h3 e3 o3 => ?_)
  refine r138_step (j := 2) hF hc (by decide) hm (by exact tx) (by omega) o3 (fun h4 e4 o4 => ?_)
  unfold b138_17
  rw [if_pos (by decide)]
  unfold b138_54
  rw [nn_some, mb_mr]
  have e04 : agR h h4 := agR_trans (agR_trans (agR_trans (ag_R e1) e2) e3) e4
  rw [s_ms_ms2, s_ms_ms2, s_ti_ms, s_ti_ms, s_ms_ms, s_ms_ms, s_ti_cl, s_ms_cl] at o4
  have em : (if sev (s_ti S t) then snd3 (fun p => tp (s_ti S t) p && p != m) 5 t (s_ms S) else s_ms S) = snd3 (fun p => tp (s_ti S t) p && p != m) 5 t (s_ms S) := by
    cases hs : sev (s_ti S t)
    · rw [if_neg (by decide), snd3_none]
      intro p hp
      by_cases e : p = m
      · have : (p != m) = false := by simpa using e
        rw [this, Bool.and_false]
      · rw [sev_one hm hs hpm p hp e]; rfl
    · rw [if_pos rfl]
  have o4' : RX h4 (s_ms_ (s_cl_ S (fset (s_cl S) c (c_op_ (s_cl S c) 0))) (snd3 (fun p => tp (s_ti S t) p && p != m) 5 t (s_ms S))) n0 [] c 3 := by
    rw [snd3_eq]; exact o4
  rw [← em] at o4'
  have ecl : s_cl (s_ms_ (s_cl_ S (fset (s_cl S) c (c_op_ (s_cl S c) 0))) (if sev (s_ti S t) then snd3 (fun p => tp (s_ti S t) p && p != m) 5 t (s_ms S) else s_ms S)) c = c_op_ (s_cl S c) 0 := by rw [s_cl_ms, s_cl_cl, fset_eq, if_pos rfl]
  obtain ⟨w, hj, hfu, hpa⟩ := ro
  have tt := r139_tot (F := F' + 4) hF hc o4' hbg hn (by rw [ecl]; exact w) (by rw [ecl]; exact hfu) (by rw [ecl]; exact hpa)
  rw [ecl] at tt
  exact tot_bind (rF_vc o4.1) (tot_mb tt (fun _ h5 q5 => tot_mr ⟨agR_trans e04 q5.1, EN_ov q5.2⟩))
theorem amask_or {an : Nat → Bool} (hm : m < 3) : amask an ||| ((1 : Int32) <<< (Int32.ofNat m &&& 31)) = amask (fset an m true) := by
  have key : ∀ a b d : Bool, (((if a then (1 : Int32) else 0) + (if b then 2 else 0) + (if d then 4 else 0)) ||| ((1 : Int32) <<< ((0 : Int32) &&& 31)) = (if true then (1 : Int32) else 0) + (if b then 2 else 0) + (if d then 4 else 0)) ∧ (((if a then (1 : Int32) else 0) + (if b then 2 else 0) + (if d then 4 else 0)) ||| ((1 : Int32) <<< ((1 : Int32) &&& 31)) = (if a then (1 : Int32) else 0) + (if true then 2 else 0) + (if d then 4 else 0)) ∧ (((if a then (1 : Int32) else 0) + (if b then 2 else 0) + (if d then 4 else 0)) ||| ((1 : Int32) <<< ((2 : Int32) &&& 31)) = (if a then (1 : Int32) else 0) + (if b then 2 else 0) + (if true then 4 else 0)) := by decide
  have := key (an 0) (an 1) (an 2)
  have hm' : m = 0 ∨ m = 1 ∨ m = 2 := by omega
  rcases hm' with rfl | rfl | rfl
  · exact this.1
  · exact this.2.1
  · exact this.2.2
theorem r162_chk {Q : Unit → xv_H → Prop} {q j : Nat} (hF : 1000 ≤ F) (hc : c < 2) (hj : j < 3) (tx : txOK S t) (hop : ¬ c_op (s_cl S c) = 0) (hn : n0 ≤ 1600) (o : RX h S n0 [] c L) (kno : (!(tp (s_ti S t) j) || c_an (s_cl S c) j) = false → Q () h) (k : (!(tp (s_ti S t) j) || c_an (s_cl S c) j) = true → tot (b162_27 F q (some 37) (Int32.ofNat c) ver nd va vb vd (Int32.ofNat t) (Int32.ofNat (j + 1))) h Q) : tot (b162_27 F (q + 1) (some 37) (Int32.ofNat c) ver nd va vb vd (Int32.ofNat t) (Int32.ofNat j)) h Q := by
  have rf := o.1
  obtain ⟨t1, t2, t3, t4, t5⟩ := tx
  have e70 : Hei h 70 c = amask (c_an (s_cl S c)) := rv_at o.2.2.2.2.2.2.2.1 (by unfold rv; simp [hop])
  unfold b162_27
  rw [show (3 : Int32) = Int32.ofNat 3 from rfl, if_neg (by rw [i_le (by decide) (by omega)]; omega)]
  unfold b162_33
  rw [nn_some, mb_mr]
  refine tot_bind (rF_vc rf) (tot_bind (r136_eq hF rf hj (by omega) t4 t5 hn (o.2.2.2.1.2 t t1 t2)) ?_)
  cases hp : tp (s_ti S t) j
  · rw [hp] at k
    rw [if_pos (by decide)]
    unfold b162_59
    rw [i_add1]
    exact k rfl
  · rw [hp] at k kno
    rw [if_neg (by decide)]
    unfold b162_44
    rw [nn_some, mb_mr]
    refine tot_bind (g935 rf) ?_
    rw [nn_some, mb_mr]
    refine tot_bind (l70 rf hc) ?_
    rw [e70]
    cases ha : c_an (s_cl S c) j
    · rw [ha] at kno
      rw [if_neg (fun z => z ((amask_m hj).mpr ha))]
      exact tot_mr (kno rfl)
    · rw [ha] at k
      rw [if_pos (fun z => by have := (amask_m hj).mp z; rw [ha] at this; cases this)]
      unfold b162_59
      rw [i_add1]
      exact k rfl
theorem cnt_sev {its : List zI} : (cnt3 (tp its) ≤ 1) ↔ sev its = false := by
  unfold cnt3 sev
  cases tp its 0 <;> cases tp its 1 <;> cases tp its 2 <;> decide
theorem r162_snd {Q : Unit → xv_H → Prop} {q j : Nat} (hF : 1000 ≤ F) (hc : c < 2) (hj : j < 3) (tx : txOK S t) (hs : sev (s_ti S t) = true) (hn : n0 ≤ 1600) (o : RX h S n0 [] c L) (k : ∀ h', ag (fun a i => ¬ KQ a i) h h' → RX h' (s_ms_ S (if tp (s_ti S t) j then snd_ (s_ms S) (4, t, j, none) else s_ms S)) n0 [] c L → tot (b162_75 F q (some 37) (Int32.ofNat c) ver nd va vb vd (Int32.ofNat t) (Int32.ofNat (j + 1))) h' Q) : tot (b162_75 F (q + 1) (some 37) (Int32.ofNat c) ver nd va vb vd (Int32.ofNat t) (Int32.ofNat j)) h Q := by
  have rf := o.1
  obtain ⟨t1, t2, t3, t4, t5⟩ := tx
  unfold b162_75
  rw [show (3 : Int32) = Int32.ofNat 3 from rfl, if_neg (by rw [i_le (by decide) (by omega)]; omega)]
  unfold b162_81
  rw [nn_some, mb_mr]
  refine tot_bind (rF_vc rf) (tot_bind (r135_eq hF rf (by omega) t4 t5 hn (o.2.2.2.1.2 t t1 t2)) ?_)
  rw [if_neg (fun z => by rw [cnt_sev, hs] at z; cases z)]
  unfold b162_91
  rw [nn_some, mb_mr]
  refine tot_bind (rF_vc rf) (tot_bind (r136_eq hF rf hj (by omega) t4 t5 hn (o.2.2.2.1.2 t t1 t2)) ?_)
  cases hp : tp (s_ti S t) j
  · rw [hp] at k
    rw [if_pos (by decide)]
    unfold b162_112
    rw [i_add1]
    exact k h ag_refl o
  · rw [hp] at k
    rw [if_neg (by decide)]
    unfold b162_102 b162_112
    rw [nn_some, mb_mr]
    refine tot_bind (rF_vc rf) (tot_mb (r132_tot rf o.2.2.2.2.2.2.1) (fun _ h1 q1 => ?_))
    rw [i_add1]
    exact k h1 q1.2.1 (RX_q q1.2.1 o q1.2.2)
/-- what comes once all have agreed -/
def goOK (z : zC) (so : Option (Int32 × zN)) : Prop := runOK z ∧ (c_sg z = 1 ∨ c_sg z = 2 ∨ c_sg z = 3) ∧ (c_sg z = 1 → ∃ v, so = some v ∧ lkOK z v) ∧ (c_sg z = 3 → c_lf z = [] ∧ c_fo z = false ∧ c_re z = 0 ∧ c_go z = c_fr z)
theorem r162_go {so : Option (Int32 × zN)} (hF : 1000 ≤ F) (hc : c < 2) (e71 : Hei h 71 c = c_sg (s_cl S c)) (hn : n0 + 6 ≤ 1600) (hbg : s_bg S < 512) (o : RX h S n0 [] c 3) (go : goOK (s_cl S c) so) (od : ∀ v, so = some v → ver = v.1 ∧ decN nd va vb vd v.2) : tot (b162_118 F (some 37) (Int32.ofNat c) ver nd va vb vd) h (fun _ h' => agR h h' ∧ EN h' S c (Dgo (s_cl S c) so) n0) := by
  have rf := o.1
  have rc := o.2.2.2.2.2.2.2.1
  obtain ⟨ro, hsg, g1, g3⟩ := go
  unfold b162_118
  rw [nn_some, mb_mr]
  refine tot_bind (g936 rf) ?_
  rw [nn_some, mb_mr]
  refine tot_bind (l71 rf hc) ?_
  rw [e71]
  have g2' : ∀ (_ : ¬ c_sg (s_cl S c) = 1), Dgo (s_cl S c) so = if c_sg (s_cl S c) = 3 then Dstart (Cforget (s_cl S c)) else (Cdone (s_cl S c), none) := by
    intro n1
    unfold Dgo
    rw [if_neg n1]
  rcases hsg with s1 | s2 | s3
  · rw [if_neg (fun z => z s1)]
    obtain ⟨v, rfl, lk⟩ := g1 s1
    obtain ⟨rfl, dd⟩ := od v rfl
    have hD : Dgo (s_cl S c) (some v) = Dlook (s_cl S c) v := by unfold Dgo; rw [if_pos s1]
    rw [hD]
    unfold b162_128 b162_173
    rw [nn_some, mb_mr]
    exact tot_bind (rF_vc rf) (tot_mb (r163_tot (N := v.2) hF hc o hbg hn ro lk dd) (fun _ h2 q2 => tot_mr q2))
  · rw [if_pos (by rw [s2]; decide), g2' (by rw [s2]; decide), if_neg (by rw [s2]; decide)]
    unfold b162_145
    rw [nn_some, mb_mr]
    refine tot_bind (g936 rf) ?_
    rw [nn_some, mb_mr]
    refine tot_bind (l71 rf hc) ?_
    rw [e71, if_pos (by rw [s2]; decide)]
    unfold b162_168 b162_173
    rw [nn_some, mb_mr]
    exact tot_bind (rF_vc rf) (tot_mb (r166_tot hc o ro.1.1) (fun _ h2 q2 => tot_mr q2))
  · rw [if_pos (by rw [s3]; decide), g2' (by rw [s3]; decide), if_pos s3]
    unfold b162_145
    rw [nn_some, mb_mr]
    refine tot_bind (g936 rf) ?_
    rw [nn_some, mb_mr]
    refine tot_bind (l71 rf hc) ?_
    rw [e71, if_neg (fun z => z s3)]
    unfold b162_155 b162_173
    rw [nn_some, mb_mr]
    obtain ⟨w, hj, hfu, hpa⟩ := ro
    refine tot_bind (rF_vc rf) (tot_mb (r140_tot hF rf hc rc hpa) (fun _ h1 q1 => ?_))
    obtain ⟨e1, rc1⟩ := q1
    have o1 := RX_cl hc e1 o rc1
    have ecl : s_cl (s_cl_ S (fset (s_cl S) c (Cforget (s_cl S c)))) c = Cforget (s_cl S c) := by rw [s_cl_cl, fset_eq, if_pos rfl]
    have wf := okW_f w
    have t := r142_tot (F := F) hF hc o1 (by decide) hbg (by omega) (by rw [ecl]; exact wf.1) (by rw [ecl]; exact wf.2.1) (by rw [ecl]; exact wf.2.2.1) (by rw [ecl]; exact wf.2.2.2 _ (sub_refl _) _)
    rw [ecl, Zbegin_cl] at t
    obtain ⟨y1, y2, y3, y4⟩ := g3 s3
    have eD : Dstart (Cforget (s_cl S c)) = Dwalk (c_pa_ (Cforget (s_cl S c)) [0]) := by
      have hD : Dstart (Cforget (s_cl S c)) = Dwalk (c_pa_ (c_go_ (c_re_ (c_fo_ (c_lf_ (Cforget (s_cl S c)) []) false) 0) (c_fr (Cforget (s_cl S c)))) [0]) := by unfold Dstart DwalkFor; rfl
      rw [hD]
      have e : c_go_ (c_re_ (c_fo_ (c_lf_ (Cforget (s_cl S c)) []) false) 0) (c_fr (Cforget (s_cl S c))) = Cforget (s_cl S c) := by
        have f1 : c_lf (Cforget (s_cl S c)) = [] := by unfold Cforget; rw [c_lf_cp]; exact y1
        have f2 : c_fo (Cforget (s_cl S c)) = false := by unfold Cforget; rw [c_fo_cp]; exact y2
        have f3 : c_re (Cforget (s_cl S c)) = 0 := by unfold Cforget; rw [c_re_cp]; exact y3
        have f4 : c_fr (Cforget (s_cl S c)) = c_go (Cforget (s_cl S c)) := by unfold Cforget; rw [c_fr_cp, c_go_cp]; exact y4.symm
        generalize Cforget (s_cl S c) = zz at *
        rw [f4]
        have i1 : c_lf_ zz [] = zz := by
          have : c_lf_ zz (c_lf zz) = zz := (rfl)
          rw [f1] at this; exact this
        have i2 : c_fo_ zz false = zz := by
          have : c_fo_ zz (c_fo zz) = zz := (rfl)
          rw [f2] at this; exact this
        have i3 : c_re_ zz 0 = zz := by
          have : c_re_ zz (c_re zz) = zz := (rfl)
          rw [f3] at this; exact this
        have i4 : c_go_ zz (c_go zz) = zz := (rfl)
        rw [i1, i2, i3, i4]
      rw [e]
    rw [eD]
    exact tot_bind (rF_vc o1.1) (tot_mb t (fun _ h2 q2 => tot_mr ⟨agR_trans (ag_R e1) q2.1, EN_3 q2.2⟩))
end RHEAR
