/-! The reference: anew, wrong, done. -/
def EN (h : xv_H) (S : zS) (c : Nat) (D : zD) (n0 : Nat) : Prop := RX h (Zbegin S c D) (n0 + dlen D) [] c (lev D.1)
def walkOK (cp : Nat → Option (Int32 × zN)) (put : Bool) : Prop := ∀ cp' : Nat → Option (Int32 × zN), (∀ a q, cp' a = some q → cp a = some q) → ∀ k, (zw cp' put k 23 [0]).1.length < 24
def okW (z : zC) : Prop := ¬ c_st z = 0 ∧ c_hi z < 24 ∧ cpW (c_cp z) ∧ walkOK (c_cp z) (c_jb z == 2)
section RGO
variable {h h1 : xv_H} {F i j x p q v s a b c n0 L L2 n : Nat} {N : zN} {k va vb vd ver : Int32} {S : zS} {P : List zI} {z : zC} {D : zD}
theorem lev_le : lev z ≤ 3 := by
  unfold lev
  split
  · decide
  · split
    · decide
    · split
      · decide
      · decide
theorem RX_le (hL : L2 ≤ L) (o : RX h S n P c L) : RX h S n P c L2 := by
  obtain ⟨q1, q2, q3, q4, q5, q6, q7, q8, q9⟩ := o
  exact ⟨q1, q2, q3, q4, q5, q6, q7, rC_le hL q8, q9⟩
theorem EN_3 (o : RX h (Zbegin S c D) (n0 + dlen D) [] c 3) : EN h S c D n0 := RX_le lev_le o
theorem EN_none (hc : c < 2) (e : agC c h h1) (o : RX h S n0 [] c L) (o2 : rC h1 c z (lev z)) : EN h1 S c (z, none) n0 := RX_cl hc e o o2
theorem EN_cl {z1 : zC} : EN h (s_cl_ S (fset (s_cl S) c z1)) c D n0 = EN h S c D n0 := by unfold EN; rw [Zbegin_cl]
theorem sub_refl (cp : Nat → Option (Int32 × zN)) : ∀ a q, cp a = some q → cp a = some q := fun _ _ q => q
theorem Cforget_sub : ∀ a q, c_cp (Cforget z) a = some q → c_cp z a = some q := by
  intro a q e
  unfold Cforget at e
  rw [c_cp_cp] at e
  by_cases hm : a ∈ c_pa z
  · rw [if_pos hm] at e; cases e
  · rw [if_neg hm] at e; exact e
theorem cpW_sub {cp cp2 : Nat → Option (Int32 × zN)} (s : ∀ a q, cp2 a = some q → cp a = some q) (w : cpW cp) : cpW cp2 := fun a q e => w a q (s a q e)
theorem walkOK_sub {cp cp2 : Nat → Option (Int32 × zN)} {put : Bool} (s : ∀ a q, cp2 a = some q → cp a = some q) (w : walkOK cp put) : walkOK cp2 put := fun cp' s' k => w cp' (fun a q e => s a q (s' a q e)) k
theorem okW_f (w : okW z) : okW (Cforget z) := by
  obtain ⟨w1, w2, w3, w4⟩ := w
  refine ⟨?_, ?_, cpW_sub Cforget_sub w3, ?_⟩
  · unfold Cforget; rw [c_st_cp]; exact w1
  · unfold Cforget; rw [c_hi_cp]; exact w2
  · have : c_jb (Cforget z) = c_jb z := by unfold Cforget; rw [c_jb_cp]
    rw [this]
    exact walkOK_sub Cforget_sub w4
theorem rC_up2 (o : rC h c z L) (e67 : Hei h 67 c = c_re z) (e68 : Hei h 68 c = b2i (c_fo z)) (e74 : Hei h 74 c = Int32.ofNat (c_lf z).length) (hs : ¬ c_st z = 0) (hl : c_lf z = []) : rC h c z 2 := by
  obtain ⟨o1, o2, o3, o4⟩ := o
  refine ⟨fun A x hx => ?_, o2, fun q => absurd q (by decide), fun _ => by rw [hl]; exact ⟨by decide, fun i hi => by cases hi⟩⟩
  by_cases a : A = 67
  · subst a; unfold rv at hx; simp at hx; rw [← hx]; exact e67
  · by_cases b : A = 68
    · subst b; unfold rv at hx; simp at hx; rw [← hx]; exact e68
    · by_cases d : A = 74
      · subst d; unfold rv at hx; simp [hs] at hx; rw [← hx]; exact e74
      · by_cases f : A = 73
        · subst f; unfold rv at hx; simp at hx
        · refine o1 A x ?_
          rw [← hx]
          unfold rv
          simp only [a, b, d, f, if_false]
/-- anew -/
theorem r141_tot (hF : 1000 ≤ F) (hc : c < 2) (o : RX h S n0 [] c L) (hbg : s_bg S < 512) (hn : n0 + 3 ≤ 1600) (w : okW (s_cl S c)) : tot (m141 F 37 (Int32.ofNat c)) h (fun _ h' => agR h h' ∧ EN h' S c (Dstart (s_cl S c)) n0) := by
  obtain ⟨w1, w2, w3, w4⟩ := w
  have rf := o.1
  have rc := o.2.2.2.2.2.2.2.1
  have e64 : Hei h 64 c = c_fr (s_cl S c) := rv_at rc (by unfold rv; simp)
  unfold m141 b141_0
  rw [nn_some, mb_mr]
  refine tot_bind (g928 rf) (tot_bind (g929 rf) ?_)
  rw [nn_some, mb_mr]
  refine tot_bind (l64 rf hc) ?_
  rw [e64, nn_some, mb_mr]
  refine tot_bind (s63 rf hc) ?_
  obtain ⟨e1, rc1⟩ := rs_go (c_fr (s_cl S c)) rc
  generalize Uei h 63 c (c_fr (s_cl S c)) = h1 at *
  have rf1 := ag_rF e1 rf
  refine tot_bind (g932 rf1) ?_
  rw [nn_some, mb_mr]
  refine tot_bind (s67 rf1 hc) ?_
  obtain ⟨e2, rc2⟩ := rs_re 0 rc1
  have f67 : Hei (Uei h1 67 c 0) 67 c = 0 := by rw [Hei_Uei, if_pos ⟨rfl, rfl⟩]
  generalize Uei h1 67 c 0 = h2 at *
  have rf2 := ag_rF e2 rf1
  refine tot_bind (g933 rf2) ?_
  rw [nn_some, mb_mr]
  refine tot_bind (s68 rf2 hc (Or.inl rfl)) ?_
  obtain ⟨e3, rc3⟩ := rs_fo false rc2
  have e3' : b2i false = 0 := rfl
  rw [e3'] at e3 rc3
  have f68 : Hei (Uei h2 68 c 0) 68 c = 0 ∧ Hei (Uei h2 68 c 0) 67 c = 0 := ⟨by rw [Hei_Uei, if_pos ⟨rfl, rfl⟩], by rw [Hei_Uei, if_neg (by omega)]; exact f67⟩
  generalize Uei h2 68 c 0 = h3 at *
  have rf3 := ag_rF e3 rf2
  refine tot_bind (g939 rf3) ?_
  rw [nn_some, mb_mr]
  refine tot_bind (s74 rf3 hc) ?_
  have s3 : ¬ c_st (c_fo_ (c_re_ (c_go_ (s_cl S c) (c_fr (s_cl S c))) 0) false) = 0 := by rw [c_st_fo, c_st_re, c_st_go]; exact w1
  obtain ⟨e4, rc4⟩ := rs_lf0 s3 rc3
  have f74 : Hei (Uei h3 74 c 0) 74 c = 0 ∧ Hei (Uei h3 74 c 0) 68 c = 0 ∧ Hei (Uei h3 74 c 0) 67 c = 0 := ⟨by rw [Hei_Uei, if_pos ⟨rfl, rfl⟩], by rw [Hei_Uei, if_neg (by omega)]; exact f68.1, by rw [Hei_Uei, if_neg (by omega)]; exact f68.2⟩
  generalize Uei h3 74 c 0 = h4 at *
  have e04 : agC c h h4 := ag_trans (ag_trans (ag_trans e1 e2) e3) e4
  have rc5 : rC h4 c (c_lf_ (c_fo_ (c_re_ (c_go_ (s_cl S c) (c_fr (s_cl S c))) 0) false) []) 2 := by
    refine rC_up2 rc4 ?_ ?_ ?_ ?_ (c_lf_lf ..)
    · rw [c_re_lf, c_re_fo, c_re_re]; exact f74.2.2
    · rw [c_fo_lf, c_fo_fo]; exact f74.2.1
    · rw [c_lf_lf]; exact f74.1
    · rw [c_st_lf]; exact s3
  have o4 := RX_cl hc e04 o rc5
  have ecl : s_cl (s_cl_ S (fset (s_cl S) c (c_lf_ (c_fo_ (c_re_ (c_go_ (s_cl S c) (c_fr (s_cl S c))) 0) false) []))) c = c_lf_ (c_fo_ (c_re_ (c_go_ (s_cl S c) (c_fr (s_cl S c))) 0) false) [] := by rw [s_cl_cl, fset_eq, if_pos rfl]
  have t := r142_tot (F := F) hF hc o4 (by decide) hbg hn (by rw [ecl, c_st_lf]; exact s3) (by rw [ecl, c_hi_lf, c_hi_fo, c_hi_re, c_hi_go]; exact w2) (by rw [ecl, c_cp_lf, c_cp_fo, c_cp_re, c_cp_go]; exact w3) (by rw [ecl, c_cp_lf, c_cp_fo, c_cp_re, c_cp_go, c_jb_lf, c_jb_fo, c_jb_re, c_jb_go]; exact w4 _ (sub_refl _) _)
  rw [ecl, Zbegin_cl] at t
  have eD : Dwalk (c_pa_ (c_lf_ (c_fo_ (c_re_ (c_go_ (s_cl S c) (c_fr (s_cl S c))) 0) false) []) [0]) = Dstart (s_cl S c) := by unfold Dstart DwalkFor; rfl
  rw [eD] at t
  exact tot_bind (rF_vc o4.1) (tot_mb t (fun _ h5 q5 => tot_mr ⟨agR_trans (ag_R e04) q5.1, EN_3 q5.2⟩))
/-- wrong -/
theorem r139_tot (hF : 1000 ≤ F) (hc : c < 2) (o : RX h S n0 [] c 3) (hbg : s_bg S < 512) (hn : n0 + 3 ≤ 1600) (w : okW (s_cl S c)) (hfu : ∃ f, 1 ≤ f ∧ f ≤ 10 ∧ c_fu (s_cl S c) = Int32.ofNat f) (hpa : ∀ i, i < (c_pa (s_cl S c)).length → (c_pa (s_cl S c)).getD i 0 < 24) : tot (m139 F 37 (Int32.ofNat c)) h (fun _ h' => agR h h' ∧ EN h' S c (Dwrong (s_cl S c)) n0) := by
  have rf := o.1
  have rc := o.2.2.2.2.2.2.2.1
  unfold m139 b139_0
  rw [nn_some, mb_mr]
  refine tot_bind (rF_vc rf) (tot_mb (r140_tot hF rf hc rc hpa) (fun _ h1 q1 => ?_))
  obtain ⟨e1, rc1⟩ := q1
  have rf1 := ag_rF e1 rf
  have wf := okW_f w
  have efu : c_fu (Cforget (s_cl S c)) = c_fu (s_cl S c) := by unfold Cforget; rw [c_fu_cp]
  have e62 : Hei h1 62 c = c_fu (s_cl S c) := by rw [← efu]; exact rv_at rc1 (by unfold rv; simp [wf.1])
  refine tot_bind (g927 rf1) ?_
  rw [nn_some, mb_mr]
  refine tot_bind (l62 rf1 hc) ?_
  rw [e62]
  refine tot_bind (s62 rf1 hc) ?_
  obtain ⟨e2, rc2⟩ := rs_fu (c_fu (s_cl S c) - 1) wf.1 rc1
  have f62 : Hei (Uei h1 62 c (c_fu (s_cl S c) - 1)) 62 c = c_fu (s_cl S c) - 1 := by rw [Hei_Uei, if_pos ⟨rfl, rfl⟩]
  generalize Uei h1 62 c (c_fu (s_cl S c) - 1) = h2 at *
  have rf2 := ag_rF e2 rf1
  have e02 : agC c h h2 := ag_trans e1 e2
  refine tot_bind (g927 rf2) ?_
  rw [nn_some, mb_mr]
  refine tot_bind (l62 rf2 hc) ?_
  rw [f62]
  have hD : Dwrong (s_cl S c) = if 0 < c_fu (s_cl S c) - 1 then Dstart (c_fu_ (Cforget (s_cl S c)) (c_fu (s_cl S c) - 1)) else (c_st_ (c_fu_ (Cforget (s_cl S c)) (c_fu (s_cl S c) - 1)) 4, none) := (rfl)
  rw [hD]
  obtain ⟨f, f1, f2, f3⟩ := hfu
  have ef : c_fu (s_cl S c) - 1 = Int32.ofNat (f - 1) := by rw [f3, i_sub1 f1 (by omega)]
  have hpos : (0 < c_fu (s_cl S c) - 1) ↔ ¬ (c_fu (s_cl S c) - 1 = 0) := by
    rw [ef]
    constructor
    · intro q r; rw [r] at q; exact absurd q (by decide)
    · intro q
      rw [show (0 : Int32) = Int32.ofNat 0 from rfl, i_lt (by decide) (by omega)]
      apply Classical.byContradiction
      intro r
      have : f - 1 = 0 := by omega
      rw [this] at q
      exact q rfl
  have o2 := RX_cl hc e02 o rc2
  have ecl : s_cl (s_cl_ S (fset (s_cl S) c (c_fu_ (Cforget (s_cl S c)) (c_fu (s_cl S c) - 1)))) c = c_fu_ (Cforget (s_cl S c)) (c_fu (s_cl S c) - 1) := by rw [s_cl_cl, fset_eq, if_pos rfl]
  by_cases q : c_fu (s_cl S c) - 1 = 0
  · rw [if_neg (fun z => z q), if_neg (fun z => hpos.mp z q)]
    unfold b139_24 b139_39
    rw [nn_some, mb_mr]
    refine tot_bind (g926 rf2) ?_
    rw [nn_some, mb_mr]
    refine tot_bind (s61 rf2 hc) ?_
    obtain ⟨e3, rc3⟩ := rs_st 4 (by rw [c_st_fu]; exact wf.1) (by decide) rc2
    exact tot_mr ⟨ag_R (ag_trans e02 e3), EN_none hc (ag_trans e02 e3) o (rC_le lev_le rc3)⟩
  · rw [if_pos q, if_pos (hpos.mpr q)]
    unfold b139_34 b139_39
    rw [nn_some, mb_mr]
    have t := r141_tot (F := F) hF hc o2 hbg hn (by
      rw [ecl]
      refine ⟨?_, ?_, ?_, ?_⟩
      · rw [c_st_fu]; exact wf.1
      · rw [c_hi_fu]; exact wf.2.1
      · rw [c_cp_fu]; exact wf.2.2.1
      · rw [c_cp_fu, c_jb_fu]; exact wf.2.2.2)
    rw [ecl] at t
    refine tot_bind (rF_vc rf2) (tot_mb t (fun _ h3 q3 => tot_mr ⟨agR_trans (ag_R e02) q3.1, ?_⟩))
    have := q3.2
    rw [EN_cl] at this
    exact this
/-- done -/
theorem r166_tot (hc : c < 2) (o : RX h S n0 [] c 3) (hst : ¬ c_st (s_cl S c) = 0) : tot (m166 F 37 (Int32.ofNat c)) h (fun _ h' => agR h h' ∧ EN h' S c (Cdone (s_cl S c), none) n0) := by
  have rf := o.1
  have rc := o.2.2.2.2.2.2.2.1
  have e68 : Hei h 68 c = b2i (c_fo (s_cl S c)) := rv_at rc (by unfold rv; simp)
  unfold m166 b166_0
  rw [nn_some, mb_mr]
  refine tot_bind (g926 rf) (tot_bind (g933 rf) ?_)
  rw [nn_some, mb_mr]
  refine tot_bind (l68 rf hc) ?_
  rw [e68]
  unfold Cdone
  cases hf : c_fo (s_cl S c)
  · rw [if_pos (by decide)]
    unfold b166_18 b166_19
    rw [nn_some, mb_mr]
    refine tot_bind (s61 rf hc) ?_
    obtain ⟨e3, rc3⟩ := rs_st 2 hst (by decide) rc
    exact tot_mr ⟨ag_R e3, EN_none hc e3 o (rC_le lev_le rc3)⟩
  · rw [if_neg (by decide)]
    unfold b166_14 b166_19
    rw [nn_some, mb_mr]
    refine tot_bind (s61 rf hc) ?_
    obtain ⟨e3, rc3⟩ := rs_st 3 hst (by decide) rc
    exact tot_mr ⟨ag_R e3, EN_none hc e3 o (rC_le lev_le rc3)⟩
end RGO
