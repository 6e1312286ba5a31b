/-! The reference: work begins; resend. -/
section RSTART
variable {h h0 h1 : xv_H} {F j x p q s c d n L t m : Nat} {S : zS} {P : List zI} {D : zD} {z : zC} {i a b v jb : Int32}
/-- six rows of a client are set -/
theorem st_rows (rf : rF h) (hc : c < 2) {k : Nat → xm Unit} {Q : Unit → xv_H → Prop} (kk : ∀ h', agC c h h' → (∀ A i, ¬ (59 < A ∧ A < 67 ∧ ¬ A = 63 ∧ i = c) → Hei h' A i = Hei h A i) → (∀ A i, Hel h' A i = Hel h A i) → Hei h' 60 c = jb ∧ Hei h' 61 c = 1 ∧ Hei h' 62 c = 10 ∧ Hei h' 64 c = a ∧ Hei h' 65 c = b ∧ Hei h' 66 c = v → tot (mb (vc 9 37) fun _ => mb (m141 F 37 (Int32.ofNat c)) fun _ => mr ()) h' Q) : tot (m174 F 37 (Int32.ofNat c) jb a b v) h Q := by
  unfold m174 b174_0
  rw [nn_some, mb_mr]
  have st : ∀ (A : Nat) (x : Int32) (h2 : xv_H), 59 < A → A < 67 → ¬ A = 63 → ag (fun a i => ¬ KC c a i) h2 (Uei h2 A c x) := fun A x h2 h3 h4 h5 => ag_ei (by omega) (fun q => q (by unfold KC; omega))
  refine tot_bind (g925 rf) ?_
  rw [nn_some, mb_mr]
  refine tot_bind (s60 rf hc) ?_
  have a1 := st 60 jb h (by decide) (by decide) (by decide)
  have w1 : ∀ A i, Hei (Uei h 60 c jb) A i = if A = 60 ∧ i = c then jb else Hei h A i := by intro A i; rw [Hei_Uei]
  have x1 : ∀ A i, Hel (Uei h 60 c jb) A i = Hel h A i := by intro A i; rw [Hel_Uei]
  generalize Uei h 60 c jb = h1 at *
  have rf1 := ag_rF a1 rf
  refine tot_bind (g926 rf1) ?_
  rw [nn_some, mb_mr]
  refine tot_bind (s61 rf1 hc) ?_
  have a2 := ag_trans a1 (st 61 1 h1 (by decide) (by decide) (by decide))
  have w2 : ∀ A i, Hei (Uei h1 61 c 1) A i = if A = 61 ∧ i = c then 1 else Hei h1 A i := by intro A i; rw [Hei_Uei]
  have x2 : ∀ A i, Hel (Uei h1 61 c 1) A i = Hel h A i := by intro A i; rw [Hel_Uei]; exact x1 A i
  generalize Uei h1 61 c 1 = h2 at *
  have rf2 := ag_rF a2 rf
  refine tot_bind (g927 rf2) ?_
  rw [nn_some, mb_mr]
  refine tot_bind (s62 rf2 hc) ?_
  have a3 := ag_trans a2 (st 62 10 h2 (by decide) (by decide) (by decide))
  have w3 : ∀ A i, Hei (Uei h2 62 c 10) A i = if A = 62 ∧ i = c then 10 else Hei h2 A i := by intro A i; rw [Hei_Uei]
  have x3 : ∀ A i, Hel (Uei h2 62 c 10) A i = Hel h A i := by intro A i; rw [Hel_Uei]; exact x2 A i
  generalize Uei h2 62 c 10 = h3 at *
  have rf3 := ag_rF a3 rf
  refine tot_bind (g929 rf3) ?_
  rw [nn_some, mb_mr]
  refine tot_bind (s64 rf3 hc) ?_
  have a4 := ag_trans a3 (st 64 a h3 (by decide) (by decide) (by decide))
  have w4 : ∀ A i, Hei (Uei h3 64 c a) A i = if A = 64 ∧ i = c then a else Hei h3 A i := by intro A i; rw [Hei_Uei]
  have x4 : ∀ A i, Hel (Uei h3 64 c a) A i = Hel h A i := by intro A i; rw [Hel_Uei]; exact x3 A i
  generalize Uei h3 64 c a = h4 at *
  have rf4 := ag_rF a4 rf
  refine tot_bind (g930 rf4) ?_
  rw [nn_some, mb_mr]
  refine tot_bind (s65 rf4 hc) ?_
  have a5 := ag_trans a4 (st 65 b h4 (by decide) (by decide) (by decide))
  have w5 : ∀ A i, Hei (Uei h4 65 c b) A i = if A = 65 ∧ i = c then b else Hei h4 A i := by intro A i; rw [Hei_Uei]
  have x5 : ∀ A i, Hel (Uei h4 65 c b) A i = Hel h A i := by intro A i; rw [Hel_Uei]; exact x4 A i
  generalize Uei h4 65 c b = h5 at *
  have rf5 := ag_rF a5 rf
  refine tot_bind (g931 rf5) ?_
  rw [nn_some, mb_mr]
  refine tot_bind (s66 rf5 hc) ?_
  have a6 := ag_trans a5 (st 66 v h5 (by decide) (by decide) (by decide))
  have w6 : ∀ A i, Hei (Uei h5 66 c v) A i = if A = 66 ∧ i = c then v else Hei h5 A i := by intro A i; rw [Hei_Uei]
  have x6 : ∀ A i, Hel (Uei h5 66 c v) A i = Hel h A i := by intro A i; rw [Hel_Uei]; exact x5 A i
  generalize Uei h5 66 c v = h6 at *
  refine kk h6 a6 (fun A i n => ?_) x6 ⟨?_, ?_, ?_, ?_, ?_, ?_⟩
  · rw [w6, if_neg (by omega), w5, if_neg (by omega), w4, if_neg (by omega), w3, if_neg (by omega), w2, if_neg (by omega), w1, if_neg (by omega)]
  · rw [w6, if_neg (by omega), w5, if_neg (by omega), w4, if_neg (by omega), w3, if_neg (by omega), w2, if_neg (by omega), w1, if_pos ⟨rfl, rfl⟩]
  · rw [w6, if_neg (by omega), w5, if_neg (by omega), w4, if_neg (by omega), w3, if_neg (by omega), w2, if_pos ⟨rfl, rfl⟩]
  · rw [w6, if_neg (by omega), w5, if_neg (by omega), w4, if_neg (by omega), w3, if_pos ⟨rfl, rfl⟩]
  · rw [w6, if_neg (by omega), w5, if_neg (by omega), w4, if_pos ⟨rfl, rfl⟩]
  · rw [w6, if_neg (by omega), w5, if_pos ⟨rfl, rfl⟩]
  · rw [w6, if_pos ⟨rfl, rfl⟩]
/-- the client that work is given to -/
def zwk (z : zC) (jb a b v : Int32) : zC := c_wa_ (c_up_ (c_fr_ (c_fu_ (c_st_ (c_jb_ z jb) 1) 10) a) b) v
theorem zwk_g : c_hi (zwk z jb a b v) = c_hi z ∧ c_jb (zwk z jb a b v) = jb ∧ c_st (zwk z jb a b v) = 1 ∧ c_fu (zwk z jb a b v) = 10 ∧ c_go (zwk z jb a b v) = c_go z ∧ c_fr (zwk z jb a b v) = a ∧ c_up (zwk z jb a b v) = b ∧ c_wa (zwk z jb a b v) = v ∧ c_op (zwk z jb a b v) = c_op z ∧ c_an (zwk z jb a b v) = c_an z ∧ c_sg (zwk z jb a b v) = c_sg z ∧ c_cp (zwk z jb a b v) = c_cp z := by
  unfold zwk
  refine ⟨?_, ?_, ?_, ?_, ?_, ?_, ?_, ?_, ?_, ?_, ?_, ?_⟩
  · rw [c_hi_wa, c_hi_up, c_hi_fr, c_hi_fu, c_hi_st, c_hi_jb]
  · rw [c_jb_wa, c_jb_up, c_jb_fr, c_jb_fu, c_jb_st, c_jb_jb]
  · rw [c_st_wa, c_st_up, c_st_fr, c_st_fu, c_st_st]
  · rw [c_fu_wa, c_fu_up, c_fu_fr, c_fu_fu]
  · rw [c_go_wa, c_go_up, c_go_fr, c_go_fu, c_go_st, c_go_jb]
  · rw [c_fr_wa, c_fr_up, c_fr_fr]
  · rw [c_up_wa, c_up_up]
  · rw [c_wa_wa]
  · rw [c_op_wa, c_op_up, c_op_fr, c_op_fu, c_op_st, c_op_jb]
  · rw [c_an_wa, c_an_up, c_an_fr, c_an_fu, c_an_st, c_an_jb]
  · rw [c_sg_wa, c_sg_up, c_sg_fr, c_sg_fu, c_sg_st, c_sg_jb]
  · rw [c_cp_wa, c_cp_up, c_cp_fr, c_cp_fu, c_cp_st, c_cp_jb]
theorem r174_tot (hF : 1000 ≤ F) (hc : c < 2) (o : RX h S n [] c L) (hbg : s_bg S < 512) (hn : n + 3 ≤ 1600) (hh : c_hi (s_cl S c) < 24) (cw : cpW (c_cp (s_cl S c))) (wk : walkOK (c_cp (s_cl S c)) (jb == 2)) : tot (m174 F 37 (Int32.ofNat c) jb a b v) h (fun _ h' => agR h h' ∧ EN h' S c (Dstart (zwk (s_cl S c) jb a b v)) n) := by
  have rf := o.1
  have rc := o.2.2.2.2.2.2.2.1
  refine st_rows (k := fun _ => mr ()) rf hc (fun h1 e1 w1 x1 f => ?_)
  obtain ⟨f1, f2, f3, f4, f5, f6⟩ := f
  obtain ⟨g1, g2, g3, g4, g5, g6, g7, g8, g9, g10, g11, g12⟩ := zwk_g (z := s_cl S c) (jb := jb) (a := a) (b := b) (v := v)
  generalize zwk (s_cl S c) jb a b v = z1 at *
  have s1 : ¬ (1 : Int32) = 0 := by decide
  have rc1 : rC h1 c z1 0 := by
    obtain ⟨o1, o2, o3, o4⟩ := rc
    refine ⟨fun A x hx => ?_, fun a' ha => ?_, fun q => absurd q (by decide), fun q => absurd q (by decide)⟩
    · have rr := rv_row hx
      unfold rv at hx
      rw [g1, g2, g3, g4, g5, g6, g7, g8, g9, g10, g11] at hx
      by_cases q0 : A = 60
      · subst q0; simp [s1] at hx; rw [← hx]; exact f1
      · by_cases q1 : A = 61
        · subst q1; simp at hx; rw [← hx]; exact f2
        · by_cases q2 : A = 62
          · subst q2; simp [s1] at hx; rw [← hx]; exact f3
          · by_cases q4 : A = 64
            · subst q4; simp at hx; rw [← hx]; exact f4
            · by_cases q5 : A = 65
              · subst q5; simp at hx; rw [← hx]; exact f5
              · by_cases q6 : A = 66
                · subst q6; simp at hx; rw [← hx]; exact f6
                · rw [w1 A c (by omega)]
                  refine o1 A x ?_
                  unfold rv
                  by_cases y1 : A = 67
                  · subst y1; simp at hx
                  · by_cases y2 : A = 68
                    · subst y2; simp at hx
                    · by_cases y3 : A = 73
                      · subst y3; simp at hx
                      · by_cases y4 : A = 74
                        · subst y4; simp [s1] at hx
                        · simp only [q0, q1, q2, q4, q5, q6, y1, y2, y3, y4, if_false] at hx ⊢
                          exact hx
    · rw [g12]
      have := o2 a' ha
      unfold rcp at *
      rw [w1 57 _ (by omega), x1]
      exact this
  have o1 := RX_cl hc e1 o rc1
  have ecl : s_cl (s_cl_ S (fset (s_cl S) c z1)) c = z1 := by rw [s_cl_cl, fset_eq, if_pos rfl]
  have t := r141_tot (F := F) hF hc o1 hbg hn (by rw [ecl]; exact ⟨by rw [g3]; exact s1, by rw [g1]; exact hh, by rw [g12]; exact cw, by rw [g12, g2]; exact wk⟩)
  rw [ecl] at t
  exact tot_bind (rF_vc o1.1) (tot_mb t (fun _ h2 q2 => tot_mr ⟨agR_trans (ag_R e1) q2.1, EN_of q2.2⟩))
/-- idle -/
theorem le1 : (i ≤ 1) ↔ i < 2 := by rw [Int32.le_iff_toInt_le, Int32.lt_iff_toInt_lt]; have e1 : (1 : Int32).toInt = 1 := by decide
                                    have e2 : (2 : Int32).toInt = 2 := by decide
                                    omega
theorem le99 : (i ≤ 99) ↔ i < 100 := by rw [Int32.le_iff_toInt_le, Int32.lt_iff_toInt_lt]; have e1 : (99 : Int32).toInt = 99 := by decide
                                        have e2 : (100 : Int32).toInt = 100 := by decide
                                        omega
theorem le4 : (i ≤ 4) ↔ i < 5 := by rw [Int32.le_iff_toInt_le, Int32.lt_iff_toInt_lt]; have e1 : (4 : Int32).toInt = 4 := by decide
                                    have e2 : (5 : Int32).toInt = 5 := by decide
                                    omega
theorem r173_eq (o : RR h S) : m173 F 37 i h = some (b2i (decide ((0 ≤ i ∧ i < 2) ∧ s_dn S (3 + i.toNatClampNeg) = false ∧ ¬ c_st (s_cl S i.toNatClampNeg) = 1)), h) := by
  have rf := o.1
  unfold m173 b173_0
  rw [mb_some r127_eq]
  by_cases q : 0 ≤ i ∧ i < 2
  · rw [decide_eq_true (show 0 ≤ i ∧ i ≤ 1 from ⟨q.1, le1.mpr q.2⟩), if_neg (by decide)]
    obtain ⟨hc, ei⟩ := i_nat_lt (n := 2) (by decide) q
    generalize hcc : i.toNatClampNeg = c at *
    have oc := RR_c hc o
    have e61 : Hei h 61 c = c_st (s_cl S c) := rv_at oc.2.2.2.2.2.2.2.1 (by unfold rv; simp)
    unfold b173_9
    rw [nn_some, mb_mr, mb_some (g900 rf), if_neg (i_nlt.mpr q.1)]
    unfold b173_17
    rw [if_pos (le1.mpr q.2)]
    unfold b173_26 b173_29
    rw [nn_some, mb_mr, ei, show (3 : Int32) + Int32.ofNat c = Int32.ofNat (3 + c) from i_add (a := 3), mb_some (l38 rf (by omega)), o.2.1 (3 + c) (by omega)]
    rw [← ei]
    cases hd : s_dn S (3 + c)
    · rw [if_neg (by decide)]
      unfold b173_33
      rw [nn_some, mb_mr, mb_some (g926 rf), if_neg (i_nlt.mpr q.1)]
      unfold b173_41
      rw [if_pos (le1.mpr q.2)]
      unfold b173_50 b173_51
      rw [nn_some, mb_mr, ei, mb_some (l61 rf hc), e61]
      rw [← ei]
      by_cases s1 : c_st (s_cl S c) = 1
      · rw [if_pos s1, decide_eq_false (fun z => z.2.2 s1)]; rfl
      · rw [if_neg s1, decide_eq_true ⟨q, rfl, s1⟩]; rfl
    · rw [if_pos (by decide), decide_eq_false (fun z => by cases z.2.1)]; rfl
  · rw [decide_eq_false (fun z => q ⟨z.1, le1.mp z.2⟩), if_pos (by decide), decide_eq_false (fun z => q z.1)]; rfl
/-- what work asks of a client -/
def wkOK (S : zS) (jb : Int32) : Prop := ∀ c, c < 2 → c_hi (s_cl S c) < 24 ∧ cpW (c_cp (s_cl S c)) ∧ walkOK (c_cp (s_cl S c)) (jb == 2)
theorem r_work (hF : 1000 ≤ F) (o : RR h S) (w : wR S) (hbg : s_bg S < 512) (wk : wkOK S jb) (hm : (0 ≤ i ∧ i < 2) ∧ (0 ≤ a ∧ a < 100) ∧ (0 ≤ b ∧ b < 100) ∧ a ≤ b ∧ s_dn S (3 + i.toNatClampNeg) = false ∧ ¬ c_st (s_cl S i.toNatClampNeg) = 1) : tot (mb (vc 9 37) fun _ => mb (m174 F 37 i jb a b v) fun _ => mb (bz 1) fun _ => mr (1 : Int32)) h (fun r h' => r = (Xwork jb i a b v S).1 ∧ agR h h' ∧ RR h' (Xwork jb i a b v S).2) := by
  have rf := o.1
  have hn := w.2.2.2.2.2.1
  unfold Xwork
  rw [if_pos hm]
  obtain ⟨hc, ei⟩ := i_nat_lt (n := 2) (by decide) hm.1
  generalize i.toNatClampNeg = c at *
  subst ei
  obtain ⟨k1, k2, k3⟩ := wk c hc
  refine tot_bind (rF_vc rf) (tot_mb (r174_tot hF hc (RR_c hc o) hbg (by omega) k1 k2 k3) (fun _ h1 q1 => tot_bind bz_1 (tot_mr ⟨rfl, q1.1, ?_⟩)))
  exact RR_EN hc q1.2
theorem r_no {jb : Int32} (o : RR h S) (hm : ¬ ((0 ≤ i ∧ i < 2) ∧ (0 ≤ a ∧ a < 100) ∧ (0 ≤ b ∧ b < 100) ∧ a ≤ b ∧ s_dn S (3 + i.toNatClampNeg) = false ∧ ¬ c_st (s_cl S i.toNatClampNeg) = 1)) : tot (mb (bz (0 : Int32)) fun _ => mr (0 : Int32)) h (fun r h' => r = (Xwork jb i a b v S).1 ∧ agR h h' ∧ RR h' (Xwork jb i a b v S).2) := by
  unfold Xwork
  rw [if_neg hm]
  exact tot_bind bz_0 (tot_mr ⟨rfl, ag_R (K := fun _ _ => False) ag_refl, o⟩)
theorem i_refl : i ≤ i := by rw [Int32.le_iff_toInt_le]; omega
theorem r172_tot (hF : 1000 ≤ F) (o : RR h S) (w : wR S) (hbg : s_bg S < 512) (wk : wkOK S 1) : tot (m172 F 37 i a) h (fun r h' => r = (Xwork 1 i a a 0 S).1 ∧ agR h h' ∧ RR h' (Xwork 1 i a a 0 S).2) := by
  have rf := o.1
  unfold m172 b172_0
  rw [nn_some, mb_mr]
  refine tot_bind (rF_vc rf) (tot_bind (r173_eq o) ?_)
  by_cases q : (0 ≤ i ∧ i < 2) ∧ s_dn S (3 + i.toNatClampNeg) = false ∧ ¬ c_st (s_cl S i.toNatClampNeg) = 1
  · rw [decide_eq_true q, if_neg (by decide)]
    unfold b172_8
    refine tot_bind r127_eq ?_
    by_cases ka : 0 ≤ a ∧ a < 100
    · rw [decide_eq_true (show 0 ≤ a ∧ a ≤ 99 from ⟨ka.1, le99.mpr ka.2⟩), if_pos (by decide)]
      unfold b172_20
      rw [nn_some, mb_mr]
      exact r_work hF o w hbg wk ⟨q.1, ka, ka, i_refl, q.2⟩
    · rw [decide_eq_false (fun z => ka ⟨z.1, le99.mp z.2⟩), if_neg (by decide)]
      exact r_no o (fun z => ka z.2.1)
  · rw [decide_eq_false q, if_pos (by decide)]
    exact r_no o (fun z => q ⟨z.1, z.2.2.2.2⟩)
theorem r175_tot (hF : 1000 ≤ F) (o : RR h S) (w : wR S) (hbg : s_bg S < 512) (wk : wkOK S 2) : tot (m175 F 37 i a v) h (fun r h' => r = (Xwork 2 i a a v S).1 ∧ agR h h' ∧ RR h' (Xwork 2 i a a v S).2) := by
  have rf := o.1
  unfold m175 b175_0
  rw [nn_some, mb_mr]
  refine tot_bind (rF_vc rf) (tot_bind (r173_eq o) ?_)
  by_cases q : (0 ≤ i ∧ i < 2) ∧ s_dn S (3 + i.toNatClampNeg) = false ∧ ¬ c_st (s_cl S i.toNatClampNeg) = 1
  · rw [decide_eq_true q, if_neg (by decide)]
    unfold b175_8
    refine tot_bind r127_eq ?_
    by_cases ka : 0 ≤ a ∧ a < 100
    · rw [decide_eq_true (show 0 ≤ a ∧ a ≤ 99 from ⟨ka.1, le99.mpr ka.2⟩), if_pos (by decide)]
      unfold b175_20
      rw [nn_some, mb_mr]
      exact r_work hF o w hbg wk ⟨q.1, ka, ka, i_refl, q.2⟩
    · rw [decide_eq_false (fun z => ka ⟨z.1, le99.mp z.2⟩), if_neg (by decide)]
      exact r_no o (fun z => ka z.2.1)
  · rw [decide_eq_false q, if_pos (by decide)]
    exact r_no o (fun z => q ⟨z.1, z.2.2.2.2⟩)
theorem r176_tot (hF : 1000 ≤ F) (o : RR h S) (w : wR S) (hbg : s_bg S < 512) (wk : wkOK S 3) : tot (m176 F 37 i a) h (fun r h' => r = (Xwork 3 i a a 0 S).1 ∧ agR h h' ∧ RR h' (Xwork 3 i a a 0 S).2) := by
  have rf := o.1
  unfold m176 b176_0
  rw [nn_some, mb_mr]
  refine tot_bind (rF_vc rf) (tot_bind (r173_eq o) ?_)
  by_cases q : (0 ≤ i ∧ i < 2) ∧ s_dn S (3 + i.toNatClampNeg) = false ∧ ¬ c_st (s_cl S i.toNatClampNeg) = 1
  · rw [decide_eq_true q, if_neg (by decide)]
    unfold b176_8
    refine tot_bind r127_eq ?_
    by_cases ka : 0 ≤ a ∧ a < 100
    · rw [decide_eq_true (show 0 ≤ a ∧ a ≤ 99 from ⟨ka.1, le99.mpr ka.2⟩), if_pos (by decide)]
      unfold b176_20
      rw [nn_some, mb_mr]
      exact r_work hF o w hbg wk ⟨q.1, ka, ka, i_refl, q.2⟩
    · rw [decide_eq_false (fun z => ka ⟨z.1, le99.mp z.2⟩), if_neg (by decide)]
      exact r_no o (fun z => ka z.2.1)
  · rw [decide_eq_false q, if_pos (by decide)]
    exact r_no o (fun z => q ⟨z.1, z.2.2.2.2⟩)
theorem r177_tot (hF : 1000 ≤ F) (o : RR h S) (w : wR S) (hbg : s_bg S < 512) (wk : wkOK S 4) : tot (m177 F 37 i a b) h (fun r h' => r = (Xwork 4 i a b 0 S).1 ∧ agR h h' ∧ RR h' (Xwork 4 i a b 0 S).2) := by
  have rf := o.1
  unfold m177 b177_0
  rw [nn_some, mb_mr]
  refine tot_bind (rF_vc rf) (tot_bind (r173_eq o) ?_)
  by_cases q : (0 ≤ i ∧ i < 2) ∧ s_dn S (3 + i.toNatClampNeg) = false ∧ ¬ c_st (s_cl S i.toNatClampNeg) = 1
  · rw [decide_eq_true q, if_neg (by decide)]
    unfold b177_8
    refine tot_bind r127_eq ?_
    by_cases ka : 0 ≤ a ∧ a < 100
    · rw [decide_eq_true (show 0 ≤ a ∧ a ≤ 99 from ⟨ka.1, le99.mpr ka.2⟩), if_neg (by decide)]
      unfold b177_18
      refine tot_bind r127_eq ?_
      by_cases kb : a ≤ b ∧ b ≤ 99
      · rw [decide_eq_true kb, if_pos (by decide)]
        unfold b177_30
        rw [nn_some, mb_mr]
        have b0 : 0 ≤ b := by
          have := ka.1
          have := kb.1
          rw [Int32.le_iff_toInt_le] at *
          omega
        exact r_work hF o w hbg wk ⟨q.1, ka, ⟨b0, le99.mp kb.2⟩, kb.1, q.2⟩
      · rw [decide_eq_false kb, if_neg (by decide)]
        exact r_no o (fun z => kb ⟨z.2.2.2.1, le99.mpr z.2.2.1.2⟩)
    · rw [decide_eq_false (fun z => ka ⟨z.1, le99.mp z.2⟩), if_pos (by decide)]
      exact r_no o (fun z => ka z.2.1)
  · rw [decide_eq_false q, if_pos (by decide)]
    exact r_no o (fun z => q ⟨z.1, z.2.2.2.2⟩)
/-- resend -/
theorem r178_tot (hF : 1000 ≤ F) (o : RR h S) (w : wR S) (hdo : ∀ c, c < 2 → s_dn S (3 + c) = true → c_op (s_cl S c) = 0) : tot (m178 F 37 i) h (fun r h' => r = (Xresend i S).1 ∧ agR h h' ∧ RR h' (Xresend i S).2) := by
  have rf := o.1
  obtain ⟨tk, lki, hl, rk, dl, hn, hopb⟩ := id w
  unfold Xresend m178 b178_0
  refine tot_bind r127_eq ?_
  by_cases q : 0 ≤ i ∧ i < 2
  · rw [decide_eq_true (show 0 ≤ i ∧ i ≤ 1 from ⟨q.1, le1.mpr q.2⟩), if_neg (by decide)]
    obtain ⟨hc, ei⟩ := i_nat_lt (n := 2) (by decide) q
    have n0 : ¬ i < 0 := i_nlt.mpr q.1
    have l1 := le1.mpr q.2
    generalize i.toNatClampNeg = c at *
    subst ei
    have oc := RR_c hc o
    have e69 : Hei h 69 c = Int32.ofNat (c_op (s_cl S c)) := rv_at oc.2.2.2.2.2.2.2.1 (by unfold rv; simp)
    have hb := hopb c hc
    have tk1 := tk.1
    unfold b178_9
    rw [nn_some, mb_mr]
    refine tot_bind (g900 rf) ?_
    rw [if_neg n0]
    unfold b178_17
    rw [if_pos l1]
    unfold b178_26 b178_29
    rw [nn_some, mb_mr, show (3 : Int32) + Int32.ofNat c = Int32.ofNat (3 + c) from i_add (a := 3)]
    refine tot_bind (l38 rf (by omega)) ?_
    rw [o.2.1 (3 + c) (by omega)]
    cases hd : s_dn S (3 + c)
    · rw [if_neg (by decide)]
      unfold b178_33
      rw [nn_some, mb_mr]
      refine tot_bind (g934 rf) ?_
      rw [if_neg n0]
      unfold b178_41
      rw [if_pos l1]
      unfold b178_50 b178_51
      rw [nn_some, mb_mr]
      refine tot_bind (l69 rf hc) ?_
      rw [e69]
      by_cases q0 : c_op (s_cl S c) = 0
      · rw [if_neg (fun z => z (by rw [q0]; rfl)), if_neg (fun z => z.2 q0)]
        exact tot_mr ⟨rfl, ag_R (K := fun _ _ => False) ag_refl, o⟩
      · rw [if_pos (i_ne0 (by omega) q0), if_pos ⟨q, q0⟩]
        unfold b178_57
        rw [nn_some, mb_mr]
        obtain ⟨wf, h6⟩ := tk.2 (c_op (s_cl S c)) (by omega) hb
        refine tot_bind (rF_vc rf) (tot_mb (r161_tot (t := c_op (s_cl S c)) hF hc rfl (by omega) hb tk1 wf h6 (by omega) oc) (fun r h1 q1 => tot_mr ⟨q1.1, q1.2.1, ?_⟩))
        unfold Zresend
        exact RX_any hc (by decide) q1.2.2
    · rw [if_pos (by decide), if_neg (fun z => z.2 (hdo c hc hd))]
      exact tot_mr ⟨rfl, ag_R (K := fun _ _ => False) ag_refl, o⟩
  · rw [decide_eq_false (fun z => q ⟨z.1, le1.mp z.2⟩), if_pos (by decide), if_neg (fun z => q z.1)]
    exact tot_mr ⟨rfl, ag_R (K := fun _ _ => False) ag_refl, o⟩
end RSTART
