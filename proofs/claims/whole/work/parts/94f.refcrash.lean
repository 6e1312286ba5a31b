/-! The reference: crash, restart. -/
section RCRASH
variable {h h0 h1 : xv_H} {F j x p q s c d n L t m : Nat} {S : zS} {P : List zI} {z : zC} {i : Int32} {dn : Nat → Bool}
theorem RX_g (e : ag (fun a i => ¬ KG a i) h h1) (o : RX h S n P c L) (q : rG h1 dn) : RX h1 (s_dn_ S dn) n P c L := by
  obtain ⟨q1, q2, q3, q4, q5, q6, q7, q8, q9⟩ := o
  refine ⟨ag_rF e q1, q, ?_, ?_, ?_, ?_, ?_, ?_, ?_⟩
  · rw [s_ce_dn]; exact rN_c e (fun a i q => by unfold KN at q; unfold KG; omega) q3
  · rw [s_bg_dn, s_tc_dn, s_ti_dn]; exact rT_c e (fun a i q => by unfold KT at q; unfold KG; omega) q4
  · exact rP_c e (fun a i q => by unfold KP at q; unfold KG; omega) q5
  · rw [s_rm_dn]; exact rR_c e (fun a i q => by unfold KR at q; unfold KG; omega) q6
  · rw [s_ms_dn]; exact rQ_c e (fun a i q => by unfold KQ at q; unfold KG; omega) q7
  · rw [s_cl_dn]; exact rC_c e (fun a i q => by unfold KC at q; unfold KG; omega) q8
  · intro d hd hn
    rw [s_cl_dn]
    exact rC_c e (fun a i q => by unfold KC at q; unfold KG; omega) (q9 d hd hn)
theorem RX_dn {u : Bool} (o : RX h S n P c L) : ag (fun a i => ¬ KG a i) h (Uei h 38 p (b2i u)) ∧ RX (Uei h 38 p (b2i u)) (s_dn_ S (fset (s_dn S) p u)) n P c L := by
  have e : ag (fun a i => ¬ KG a i) h (Uei h 38 p (b2i u)) := ag_ei (by decide) (fun q => q rfl)
  refine ⟨e, RX_g e o (fun b hb => ?_)⟩
  rw [Hei_Uei, fset_eq]
  by_cases z : b = p
  · rw [if_pos ⟨rfl, z⟩, if_pos z]
  · rw [if_neg (fun y => z y.2), if_neg z]; exact o.2.1 b hb
/-- copies fall away one by one -/
theorem r179_loop {Q : Int32 → xv_H → Prop} (hc : c < 2) (rf0 : rF h0) : ∀ (f j : Nat) (h : xv_H), agC c h0 h → j ≤ 24 → 24 - j < f → (∀ A i, ¬ (A = 57 ∧ 24 * c ≤ i ∧ i < 24 * c + 24) → Hei h A i = Hei h0 A i) → (∀ A i, Hel h A i = Hel h0 A i) → (∀ b, b < j → Hei h 57 (24 * c + b) = 0) → (∀ h', agC c h0 h' → (∀ A i, ¬ (A = 57 ∧ 24 * c ≤ i ∧ i < 24 * c + 24) → Hei h' A i = Hei h0 A i) → (∀ b, b < 24 → Hei h' 57 (24 * c + b) = 0) → Q 1 h') → tot (b179_95 F f (some 37) (Int32.ofNat c) (Int32.ofNat j)) h Q := by
  intro f
  induction f with
  | zero => intro j h _ h1 h2; omega
  | succ f ih =>
    intro j h a0 h1 h2 w x y kk
    have rf := ag_rF a0 rf0
    unfold b179_95
    rw [show (24 : Int32) = Int32.ofNat 24 from rfl]
    by_cases e : 24 ≤ j
    · rw [if_pos (by rw [i_le (by decide) (by omega)]; exact e)]
      unfold b179_119
      exact tot_bind bz_1 (tot_mr (kk h a0 w (fun b hb => y b (by omega))))
    · rw [if_neg (by rw [i_le (by decide) (by omega)]; exact e)]
      unfold b179_101
      rw [nn_some, mb_mr]
      refine tot_bind (g922 rf) ?_
      rw [nn_some, mb_mr, ix24]
      refine tot_bind (s57 rf (by omega)) ?_
      rw [i_add1]
      refine ih (j + 1) _ (ag_trans a0 (ag_ei (by decide) (fun q => q (by unfold KC; omega)))) (by omega) (by omega) (fun A i n => ?_) (fun A i => ?_) (fun b hb => ?_) kk
      · rw [Hei_Uei, if_neg (by omega)]; exact w A i n
      · rw [Hel_Uei]; exact x A i
      · rw [Hei_Uei]
        by_cases z : b = j
        · rw [if_pos ⟨rfl, by omega⟩]
        · rw [if_neg (by omega)]; exact y b (by omega)
theorem r179_cli (hF : 1000 ≤ F) (hc : c < 2) (o : RX h S n P c L) : tot (b179_47 F (some 37) (Int32.ofNat (3 + c))) h (fun r h' => r = 1 ∧ agR h h' ∧ RX h' (s_cl_ S (fset (s_cl S) c (c_cp_ (c_st_ (c_op_ (s_cl S c) 0) 0) (fun _ => none)))) n P c 0) := by
  have rf := o.1
  have rc := o.2.2.2.2.2.2.2.1
  have ec : Int32.ofNat (3 + c) - (3 : Int32) = Int32.ofNat c := by
    rw [show (3 : Int32) = Int32.ofNat 3 from rfl, i_sub (by omega) (by omega), show 3 + c - 3 = c by omega]
  have st : ∀ (A : Nat) (x : Int32) (h2 : xv_H), 59 < A → A < 75 → ¬ A = 72 → agC c h2 (Uei h2 A c x) := fun A x h2 h3 h4 h5 => ag_ei (by omega) (fun q => q (by unfold KC; omega))
  unfold b179_47
  rw [nn_some, mb_mr, ec]
  refine tot_bind (g926 rf) ?_
  rw [nn_some, mb_mr]
  refine tot_bind (s61 rf hc) ?_
  have a1 := st 61 0 h (by decide) (by decide) (by decide)
  have w1 : ∀ A i, Hei (Uei h 61 c 0) A i = if A = 61 ∧ i = c then 0 else Hei h A i := by intro A i; rw [Hei_Uei]
  have x1 : ∀ A i, Hel (Uei h 61 c 0) A i = Hel h A i := by intro A i; rw [Hel_Uei]
  generalize Uei h 61 c 0 = h1 at *
  have rf1 := ag_rF a1 rf
  refine tot_bind (g925 rf1) ?_
  rw [nn_some, mb_mr]
  refine tot_bind (s60 rf1 hc) ?_
  have a2 := ag_trans a1 (st 60 0 h1 (by decide) (by decide) (by decide))
  have w2 : ∀ A i, Hei (Uei h1 60 c 0) A i = if A = 60 ∧ i = c then 0 else Hei h1 A i := by intro A i; rw [Hei_Uei]
  have x2 : ∀ A i, Hel (Uei h1 60 c 0) A i = Hel h A i := by intro A i; rw [Hel_Uei]; exact x1 A i
  generalize Uei h1 60 c 0 = h2 at *
  have rf2 := ag_rF a2 rf
  refine tot_bind (g927 rf2) ?_
  rw [nn_some, mb_mr]
  refine tot_bind (s62 rf2 hc) ?_
  have a3 := ag_trans a2 (st 62 0 h2 (by decide) (by decide) (by decide))
  have w3 : ∀ A i, Hei (Uei h2 62 c 0) A i = if A = 62 ∧ i = c then 0 else Hei h2 A i := by intro A i; rw [Hei_Uei]
  have x3 : ∀ A i, Hel (Uei h2 62 c 0) A i = Hel h A i := by intro A i; rw [Hel_Uei]; exact x2 A i
  generalize Uei h2 62 c 0 = h3 at *
  have rf3 := ag_rF a3 rf
  refine tot_bind (g932 rf3) ?_
  rw [nn_some, mb_mr]
  refine tot_bind (s67 rf3 hc) ?_
  have a4 := ag_trans a3 (st 67 0 h3 (by decide) (by decide) (by decide))
  have w4 : ∀ A i, Hei (Uei h3 67 c 0) A i = if A = 67 ∧ i = c then 0 else Hei h3 A i := by intro A i; rw [Hei_Uei]
  have x4 : ∀ A i, Hel (Uei h3 67 c 0) A i = Hel h A i := by intro A i; rw [Hel_Uei]; exact x3 A i
  generalize Uei h3 67 c 0 = h4 at *
  have rf4 := ag_rF a4 rf
  refine tot_bind (g939 rf4) ?_
  rw [nn_some, mb_mr]
  refine tot_bind (s74 rf4 hc) ?_
  have a5 := ag_trans a4 (st 74 0 h4 (by decide) (by decide) (by decide))
  have w5 : ∀ A i, Hei (Uei h4 74 c 0) A i = if A = 74 ∧ i = c then 0 else Hei h4 A i := by intro A i; rw [Hei_Uei]
  have x5 : ∀ A i, Hel (Uei h4 74 c 0) A i = Hel h A i := by intro A i; rw [Hel_Uei]; exact x4 A i
  generalize Uei h4 74 c 0 = h5 at *
  have rf5 := ag_rF a5 rf
  refine tot_bind (g934 rf5) ?_
  rw [nn_some, mb_mr]
  refine tot_bind (s69 rf5 hc) ?_
  have a6 := ag_trans a5 (st 69 0 h5 (by decide) (by decide) (by decide))
  have w6 : ∀ A i, Hei (Uei h5 69 c 0) A i = if A = 69 ∧ i = c then 0 else Hei h5 A i := by intro A i; rw [Hei_Uei]
  have x6 : ∀ A i, Hel (Uei h5 69 c 0) A i = Hel h A i := by intro A i; rw [Hel_Uei]; exact x5 A i
  generalize Uei h5 69 c 0 = h6 at *
  have W : ∀ A i, Hei h6 A i = if (A = 61 ∨ A = 60 ∨ A = 62 ∨ A = 67 ∨ A = 74 ∨ A = 69) ∧ i = c then 0 else Hei h A i := by
    intro A i
    by_cases z : (A = 61 ∨ A = 60 ∨ A = 62 ∨ A = 67 ∨ A = 74 ∨ A = 69) ∧ i = c
    · rw [if_pos z]
      obtain ⟨z1, z2⟩ := z
      rcases z1 with e | e | e | e | e | e
      · rw [w6, if_neg (by omega), w5, if_neg (by omega), w4, if_neg (by omega), w3, if_neg (by omega), w2, if_neg (by omega), w1, if_pos ⟨e, z2⟩]
      · rw [w6, if_neg (by omega), w5, if_neg (by omega), w4, if_neg (by omega), w3, if_neg (by omega), w2, if_pos ⟨e, z2⟩]
      · rw [w6, if_neg (by omega), w5, if_neg (by omega), w4, if_neg (by omega), w3, if_pos ⟨e, z2⟩]
      · rw [w6, if_neg (by omega), w5, if_neg (by omega), w4, if_pos ⟨e, z2⟩]
      · rw [w6, if_neg (by omega), w5, if_pos ⟨e, z2⟩]
      · rw [w6, if_pos ⟨e, z2⟩]
    · rw [if_neg z, w6, if_neg (by omega), w5, if_neg (by omega), w4, if_neg (by omega), w3, if_neg (by omega), w2, if_neg (by omega), w1, if_neg (by omega)]
  refine r179_loop hc (ag_rF a6 rf) F 0 h6 ag_refl (by omega) (by omega) (fun _ _ _ => rfl) (fun _ _ => rfl) (fun b hb => by omega) (fun h7 a7 w7 y7 => ?_)
  refine ⟨rfl, agR_trans (ag_R a6) (ag_R a7), RX_cl hc (ag_trans a6 a7) o ?_⟩
  refine ⟨fun A x hx => ?_, fun b hb => ?_, fun q => absurd q (by decide), fun q => absurd q (by decide)⟩
  · have rr := rv_row hx
    rw [w7 A c (by omega), W]
    unfold rv at hx
    rw [c_hi_cp, c_hi_st, c_hi_op, c_st_cp, c_st_st, c_jb_cp, c_jb_st, c_jb_op, c_fu_cp, c_fu_st, c_fu_op, c_go_cp, c_go_st, c_go_op, c_fr_cp, c_fr_st, c_fr_op, c_up_cp, c_up_st, c_up_op, c_wa_cp, c_wa_st, c_wa_op, c_op_cp, c_op_st, c_op_op] at hx
    by_cases q0 : A = 60
    · subst q0; rw [if_pos ⟨by omega, rfl⟩]; simp at hx; exact hx
    · by_cases q1 : A = 61
      · subst q1; rw [if_pos ⟨by omega, rfl⟩]; simp at hx; exact hx
      · by_cases q2 : A = 62
        · subst q2; rw [if_pos ⟨by omega, rfl⟩]; simp at hx; exact hx
        · by_cases q3 : A = 67
          · subst q3; simp at hx
          · by_cases q4 : A = 68
            · subst q4; simp at hx
            · by_cases q5 : A = 69
              · subst q5; rw [if_pos ⟨by omega, rfl⟩]; simp at hx; exact hx
              · by_cases q6 : A = 70
                · subst q6; simp at hx
                · by_cases q7 : A = 71
                  · subst q7; simp at hx
                  · by_cases q8 : A = 73
                    · subst q8; simp at hx
                    · by_cases q9 : A = 74
                      · subst q9; rw [if_pos ⟨by omega, rfl⟩]; simp at hx; exact hx
                      · rw [if_neg (by omega)]
                        refine rc.1 A x ?_
                        unfold rv
                        simp only [q0, q1, q2, q3, q4, q5, q6, q7, q8, q9, if_false] at hx ⊢
                        exact hx
  · rw [c_cp_cp]
    show Hei h7 57 (24 * c + b) = 0
    exact y7 b hb
theorem r179_tot (hF : 1000 ≤ F) (o : RR h S) : tot (m179 F 37 i) h (fun r h' => r = (Xcrash i S).1 ∧ agR h h' ∧ RR h' (Xcrash i S).2) := by
  have rf := o.1
  unfold Xcrash m179 b179_0
  refine tot_bind r127_eq ?_
  by_cases q : 0 ≤ i ∧ i < 5
  · rw [decide_eq_true (show 0 ≤ i ∧ i ≤ 4 from ⟨q.1, le4.mpr q.2⟩), if_neg (by decide)]
    obtain ⟨hp, ei⟩ := i_nat_lt (n := 5) (by decide) q
    have n0 : ¬ i < 0 := i_nlt.mpr q.1
    have l1 := le4.mpr q.2
    generalize i.toNatClampNeg = p at *
    subst ei
    unfold b179_9
    rw [nn_some, mb_mr]
    refine tot_bind (g900 rf) ?_
    rw [if_neg n0]
    unfold b179_17
    rw [if_pos l1]
    unfold b179_26 b179_27
    rw [nn_some, mb_mr]
    refine tot_bind (l38 rf hp) ?_
    rw [o.2.1 p hp]
    cases hd : s_dn S p
    · rw [if_pos (by decide), if_pos ⟨q, rfl⟩]
      unfold b179_33
      rw [nn_some, mb_mr]
      refine tot_bind (g900 rf) ?_
      rw [nn_some, mb_mr]
      refine tot_bind (s38 rf hp (Or.inr rfl)) ?_
      obtain ⟨e1, o1⟩ := RX_dn (p := p) (u := true) o
      have eb : b2i true = 1 := rfl
      rw [eb] at e1 o1
      generalize Uei h 38 p 1 = h1 at *
      unfold Zcrash
      rw [show (3 : Int32) = Int32.ofNat 3 from rfl]
      by_cases z : 3 ≤ p
      · rw [if_pos (by rw [i_le (by decide) (by omega)]; exact z), if_neg (by omega)]
        have o1' : RR h1 (s_dn_ S (fset (s_dn S) p true)) := o1
        have oc := RR_c (c := p - 3) (by omega) o1'
        have t := r179_cli (F := F) (c := p - 3) hF (by omega) oc
        rw [show 3 + (p - 3) = p by omega] at t
        refine tot_mono t (fun r h2 q2 => ⟨q2.1, agR_trans (ag_R e1) q2.2.1, ?_⟩)
        refine RX_any (c := p - 3) (by omega) (by decide) (RX_le ?_ q2.2.2)
        rw [s_cl_cl, fset_eq, if_pos rfl]
        unfold lev
        rw [c_st_cp, c_st_st, if_pos rfl]
        exact Nat.le_refl 0
      · rw [if_neg (by rw [i_le (by decide) (by omega)]; exact z), if_pos (by omega)]
        unfold b179_45
        exact tot_bind bz_1 (tot_mr ⟨rfl, ag_R e1, o1⟩)
    · rw [if_neg (by decide), if_neg (fun z => by cases z.2)]
      exact tot_bind bz_0 (tot_mr ⟨rfl, ag_R (K := fun _ _ => False) ag_refl, o⟩)
  · rw [decide_eq_false (fun z => q ⟨z.1, le4.mp z.2⟩), if_pos (by decide), if_neg (fun z => q z.1)]
    exact tot_bind bz_0 (tot_mr ⟨rfl, ag_R (K := fun _ _ => False) ag_refl, o⟩)
theorem r180_tot (o : RR h S) : tot (m180 F 37 i) h (fun r h' => r = (Xrestart i S).1 ∧ agR h h' ∧ RR h' (Xrestart i S).2) := by
  have rf := o.1
  unfold Xrestart m180 b180_0
  refine tot_bind r127_eq ?_
  by_cases q : 0 ≤ i ∧ i < 5
  · rw [decide_eq_true (show 0 ≤ i ∧ i ≤ 4 from ⟨q.1, le4.mpr q.2⟩), if_neg (by decide)]
    obtain ⟨hp, ei⟩ := i_nat_lt (n := 5) (by decide) q
    have n0 : ¬ i < 0 := i_nlt.mpr q.1
    have l1 := le4.mpr q.2
    generalize i.toNatClampNeg = p at *
    subst ei
    unfold b180_9
    rw [nn_some, mb_mr]
    refine tot_bind (g900 rf) ?_
    rw [if_neg n0]
    unfold b180_17
    rw [if_pos l1]
    unfold b180_26 b180_27
    rw [nn_some, mb_mr]
    refine tot_bind (l38 rf hp) ?_
    rw [o.2.1 p hp]
    cases hd : s_dn S p
    · rw [if_neg (by decide), if_neg (fun z => by cases z.2)]
      exact tot_bind bz_0 (tot_mr ⟨rfl, ag_R (K := fun _ _ => False) ag_refl, o⟩)
    · rw [if_pos (by decide), if_pos ⟨q, rfl⟩]
      unfold b180_33
      rw [nn_some, mb_mr]
      refine tot_bind (g900 rf) ?_
      rw [nn_some, mb_mr]
      refine tot_bind (s38 rf hp (Or.inl rfl)) ?_
      obtain ⟨e1, o1⟩ := RX_dn (p := p) (u := false) o
      exact tot_bind bz_1 (tot_mr ⟨rfl, ag_R e1, o1⟩)
  · rw [decide_eq_false (fun z => q ⟨z.1, le4.mp z.2⟩), if_pos (by decide), if_neg (fun z => q z.1)]
    exact tot_bind bz_0 (tot_mr ⟨rfl, ag_R (K := fun _ _ => False) ag_refl, o⟩)
end RCRASH
