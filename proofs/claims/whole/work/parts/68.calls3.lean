/-! The calls of the class: crash, restart. -/
section CALL3
variable {h h1 h2 : xv_H} {F f x y c t m n K bg B : Nat} {T : zT} {S : zS} {z : zC} {D : zD} {i a b v jb : Int32} {e s : Option Nat} {R : Option Nat × Option Nat × Option Nat × Option Nat}
theorem kI_cp {cp : Nat → Option (Int32 × zN)} : kI h B (c_cp_ z cp) = kI h B z := by unfold kI; rw [c_hi_cp, c_jb_cp, c_st_cp, c_fu_cp, c_go_cp, c_fr_cp, c_up_cp, c_wa_cp, c_re_cp, c_fo_cp]
theorem cs_cpag {cp : Nat → Option (Int32 × zN)} (e : ∀ a, a < 24 → cp a = c_cp z a) (o : cs h B c z R) : cs h B c (c_cp_ z cp) R := by
  obtain ⟨⟨f1, f2, f3, f4, f5⟩, t⟩ := o
  unfold cs okCli
  rw [kI_cp, c_pa_cp, c_lf_cp, c_cp_cp]
  refine ⟨⟨f1, f2, f3, f4, ?_⟩, t⟩
  intro a ha
  rw [e a ha]
  exact f5 a ha
theorem c_cpcp (p q : Nat → Option (Int32 × zN)) : c_cp_ (c_cp_ z p) q = c_cp_ z q := (rfl)
theorem c_stop (p q : Nat → Option (Int32 × zN)) : cs h B c (c_cp_ (c_st_ z 0) p) R = cs h B c (c_cp_ (c_st_ (c_op_ z 0) 0) p) R := by
  unfold cs okCli kI
  rw [c_pa_cp, c_lf_cp, c_cp_cp, c_hi_cp, c_jb_cp, c_st_cp, c_fu_cp, c_go_cp, c_fr_cp, c_up_cp, c_wa_cp, c_re_cp, c_fo_cp, c_pa_cp, c_lf_cp, c_cp_cp, c_hi_cp, c_jb_cp, c_st_cp, c_fu_cp, c_go_cp, c_fr_cp, c_up_cp, c_wa_cp, c_re_cp, c_fo_cp, c_pa_st, c_lf_st, c_hi_st, c_jb_st, c_st_st, c_fu_st, c_go_st, c_fr_st, c_up_st, c_wa_st, c_re_st, c_fo_st, c_pa_st, c_lf_st, c_hi_st, c_jb_st, c_st_st, c_fu_st, c_go_st, c_fr_st, c_up_st, c_wa_st, c_re_st, c_fo_st, c_pa_op, c_lf_op, c_hi_op, c_jb_op, c_fu_op, c_go_op, c_fr_op, c_up_op, c_wa_op, c_re_op, c_fo_op]
theorem c103_loop (hB : isB B) {Q : Unit → xv_H → Prop} : ∀ (f j : Nat) (h : xv_H), j ≤ 24 → 24 - j < f → cs h B c (c_cp_ z (fun a => if a < j then none else c_cp z a)) R → (∀ h', ext 0 (XfC B) (XaC B) h h' → cs h' B c (c_cp_ z (fun _ => none)) R → Q () h') → tot (b103_20 F f (some B) (Int32.ofNat j)) h Q := by
  intro f
  induction f with
  | zero => intro j h h1 h2; omega
  | succ f ih =>
    intro j h h1 h2 o k
    unfold b103_20
    rw [show (24 : Int32) = Int32.ofNat 24 from rfl]
    by_cases q : 24 ≤ j
    · rw [if_pos (by rw [i_le (by decide) (by omega)]; exact q)]
      refine tot_mr (k h ext_refl ?_)
      have := cs_cpag (cp := fun _ => none) (fun a ha => by rw [c_cp_cp, if_pos (by omega)]) o
      rw [c_cpcp] at this
      exact this
    · rw [if_neg (by rw [i_le (by decide) (by omega)]; exact q)]
      unfold b103_26
      rw [nn_some, mb_mr]
      refine tot_bind (cs_101 o) ?_
      rw [nn_some, mb_mr]
      have hlC := cs_lC o
      refine tot_bind (ok_sr hlC.1 (i_nn (by omega)) (by rw [i_nat (by omega), hlC.2]; omega) (fun b hb => by cases hb)) ?_
      rw [i_nat (by omega), i_add1]
      have o1 := cs_cp (w := none) (v := none) hB (show j < 24 by omega) rfl o
      have E1 : ext 0 (XfC B) (XaC B) h (Uer h (B + 1) j none) := ext_er (Or.inl rfl)
      generalize Uer h (B + 1) j none = h1 at *
      refine ih (j + 1) h1 (by omega) (by omega) ?_ (fun h' E o => k h' (ext_trans (k1 := 0) (k2 := 0) E1 E) o)
      have ef : c_cp_ (c_cp_ z (fun a => if a < j then none else c_cp z a)) (fset (c_cp (c_cp_ z (fun a => if a < j then none else c_cp z a))) j none) = c_cp_ z (fun a => if a < j + 1 then none else c_cp z a) := by
        have : (fset (c_cp (c_cp_ z (fun a => if a < j then none else c_cp z a))) j none) = (fun a => if a < j + 1 then none else c_cp z a) := by
          funext a
          rw [fset_eq, c_cp_cp]
          by_cases e1 : a = j
          · rw [if_pos e1, if_pos (by omega)]
          · rw [if_neg e1]
            by_cases e2 : a < j
            · rw [if_pos e2, if_pos (by omega)]
            · rw [if_neg e2, if_neg (by omega)]
        rw [this, c_cpcp]
      rw [ef] at o1
      exact o1
theorem c103_tot (hF : 1000 ≤ F) (hc : c < 2) (o : CR h S T) (w : opOK S) : tot (m103 F (23 + 6 * c)) h (fun _ h' => gw 0 h h' ∧ CR h' (s_cl_ (s_dn_ S (fset (s_dn S) (3 + c) true)) (fset (s_cl S) c (c_cp_ (c_st_ (c_op_ (s_cl S c) 0) 0) (fun _ => none)))) T) := by
  have hB := isB_c hc
  obtain ⟨ek, ak, k1, k2, k3, k4, k5⟩ := o.2.2.1 c hc
  unfold m103 b103_0
  rw [nn_some, mb_mr]
  refine tot_bind (ok_pz (cs_lB k1) (Or.inl rfl)) ?_
  have E1 : ext 0 (fun f a => (f = 107 ∨ f = 111) ∧ a = 23 + 6 * c) Xa0 h (Ufi h 107 (23 + 6 * c) 0) := ext_fi ⟨Or.inl rfl, rfl⟩
  have u107 : Hfi (Ufi h 107 (23 + 6 * c) 0) 107 (23 + 6 * c) = 0 := by rw [Hfi_Ufi, if_pos ⟨rfl, rfl⟩]
  generalize Ufi h 107 (23 + 6 * c) 0 = h1 at *
  have lB1 := lv_ext E1 (cs_lB k1)
  refine tot_bind (ok_pr lB1) ?_
  have E12 : ext 0 (fun f a => (f = 107 ∨ f = 111) ∧ a = 23 + 6 * c) Xa0 h (Ufr h1 111 (23 + 6 * c) none) := ext_frS E1 (Or.inl ⟨Or.inr rfl, rfl⟩)
  have v107 : Hfi (Ufr h1 111 (23 + 6 * c) none) 107 (23 + 6 * c) = 0 := by rw [Hfi_Ufr]; exact u107
  have v111 : Hfr (Ufr h1 111 (23 + 6 * c) none) 111 (23 + 6 * c) = none := by rw [Hfr_Ufr, if_pos ⟨rfl, rfl⟩]
  generalize Ufr h1 111 (23 + 6 * c) none = h2 at *
  have o2 := cs_c2 E12 ⟨fun f a f1 f2 q => by omega, fun _ _ _ q => q⟩ (fun f b hb hf n1 n2 q => q.1.elim n1 n2) ⟨fun q => q, fun q => q, fun q => q, fun q => q⟩ k1
  refine tot_bind (cs_102 o2) ?_
  rw [nn_some, mb_mr]
  refine tot_bind (ok_pi (cs_lJ o2)) ?_
  have o3 := cs_st hB 0 o2
  have E23 : ext 0 (XfC (23 + 6 * c)) (XaC (23 + 6 * c)) h2 (Ufi h2 207 (23 + 6 * c + 2) 0) := ext_fi (Or.inr ⟨rfl, by decide⟩)
  generalize Ufi h2 207 (23 + 6 * c + 2) 0 = h3 at *
  have o3' : cs h3 (23 + 6 * c) c (c_cp_ (c_st_ (s_cl S c) 0) (fun a => if a < 0 then none else c_cp (c_st_ (s_cl S c) 0) a)) (ek, some (xv_SB + 11), ak, none) := by
    have := cs_cpag (cp := fun a => if a < 0 then none else c_cp (c_st_ (s_cl S c) 0) a) (fun a _ => by rw [if_neg (by omega)]) o3
    exact this
  refine c103_loop hB F 0 h3 (by omega) (by omega) o3' (fun h4 E4 o4 => ?_)
  have E24 : ext 0 (XfC (23 + 6 * c)) (XaC (23 + 6 * c)) h2 h4 := ext_trans (k1 := 0) (k2 := 0) E23 E4
  have hl2 := (cs_lB o2).1
  have w107 : Hfi h4 107 (23 + 6 * c) = 0 := (E24.2.2.1 _ _ hl2 (fun q => by unfold XfC at q; omega)).2.trans v107
  have w111 : Hfr h4 111 (23 + 6 * c) = none := (E24.2.2.1 _ _ hl2 (fun q => by unfold XfC at q; omega)).1.trans v111
  have E : ext 0 (XfK (23 + 6 * c)) (XaC (23 + 6 * c)) h h4 := ext_trans (k1 := 0) (k2 := 0) (ext_mono E12 (Nat.le_refl 0) (fun f a q => by unfold XfK; omega) (fun _ q => q.elim)) (ext_C_K E24)
  refine ⟨gw_K hc E, ?_⟩
  have r := CR_k (dn := fset (s_dn S) (3 + c) true) (z := c_cp_ (c_st_ (c_op_ (s_cl S c) 0) 0) (fun _ => none)) hc E w o (fun p hp => by rw [fset_eq, if_neg hp]) ⟨ek, ak, by rw [← c_stop _ (fun _ => none)]; exact o4, fun q => absurd (by rw [c_op_cp, c_op_st, c_op_op]) q, by rw [fset_eq, if_pos rfl]; exact w107, by rw [c_op_cp, c_op_st, c_op_op, if_pos rfl]; exact w111, fun q => absurd (by rw [c_op_cp, c_op_st, c_op_op]) q⟩
  exact r
/-- isUp -/
theorem c102_eq {p : Nat} (o : CR h S T) (hp : p < 5) : m102 F 0 (Int32.ofNat p) h = some (b2i (!(s_dn S p)), h) := by
  obtain ⟨z0, z1, z2, z3, z4, zv⟩ := cr_0 o
  unfold m102 b102_0
  rw [show (3 : Int32) = Int32.ofNat 3 from rfl]
  by_cases q : 3 ≤ p
  · rw [if_pos (by rw [i_le (by decide) (by omega)]; exact q)]
    unfold b102_17
    obtain ⟨ek, ak, k1, k2, k3, k4, k5⟩ := o.2.2.1 (p - 3) (by omega)
    rw [show 3 + (p - 3) = p by omega] at k3
    rw [nn_some, mb_mr, mb_some z1, nn_some, mb_mr, show (3 : Int32) = Int32.ofNat 3 from rfl, i_sub q (by omega), mb_some (cr_cli o (by omega)), nn_some, mb_mr, mb_some (ok_gi (cs_lB k1)), k3]
    unfold b102_28
    rw [mb_some (ok_bz (b2i_01 _))]; rfl
  · rw [if_neg (by rw [i_le (by decide) (by omega)]; exact q)]
    unfold b102_5
    rw [nn_some, mb_mr, mb_some z0, nn_some, mb_mr, mb_some (cr_mem o (by omega)), nn_some, mb_mr, mb_some (kM_d (o.2.1 p (by omega))).2.2.2.2.2]
    unfold b102_28
    rw [mb_some (ok_bz (b2i_01 _))]; rfl
/-- a memory node goes down or up -/
theorem cr_updn {u : Bool} (hm : m < 3) (o : CR h S T) (w : opOK S) : CR (Ufi h 304 (6 + 4 * m) (b2i u)) (s_dn_ S (fset (s_dn S) m (!u))) T := by
  have E : ext 0 (fun f a => f = 304 ∧ a = 6 + 4 * m) Xa0 h (Ufi h 304 (6 + 4 * m) (b2i u)) := ext_fi ⟨rfl, rfl⟩
  have sk : sf h (fun f a => f = 304 ∧ a = 6 + 4 * m) Xa0 := ⟨⟨fun f a f1 f2 q => by omega, fun _ _ _ q => q⟩, fun f b f1 f2 q => by omega, fun _ _ _ q => q⟩
  obtain ⟨o1, o2, o3, o4, o5, o6⟩ := id o
  refine ⟨?_, ?_, ?_, ?_, ?_, ?_⟩
  · rw [s_bg_dn]; exact kT_c E (fun f hf q => by omega) ⟨fun q => q, fun q => q⟩ o1
  · intro p hp
    rw [s_dn_dn, s_ce_dn, s_lk_dn, s_rm_dn, fset_eq]
    by_cases e : p = m
    · subst e
      rw [if_pos rfl, Bool.not_not]
      obtain ⟨⟨p1, ⟨p2, p3⟩, ⟨p4, p5⟩, ⟨p6, p7⟩⟩, ⟨q1, q2, q3, q4, q5⟩, r1, r2, r3⟩ := o2 p hp
      refine ⟨⟨lv_ext E p1, ⟨lv_ext E p2, p3⟩, ⟨lv_ext E p4, p5⟩, ⟨lv_ext E p6, p7⟩⟩, ⟨by rw [Hfi_Ufi, if_neg (by omega)]; exact q1, by rw [Hfr_Ufi]; exact q2, by rw [Hfr_Ufi]; exact q3, by rw [Hfr_Ufi]; exact q4, by rw [Hfi_Ufi, if_pos ⟨rfl, rfl⟩]⟩, fun i hi => ?_, fun i hi => by rw [Hei_Ufi]; exact r2 i hi, fun i hi => by rw [Hei_Ufi]; exact r3 i hi⟩
      obtain ⟨x, x1, x2⟩ := r1 i hi
      exact ⟨x, by rw [Her_Ufi]; exact x1, okCell_c E sk.1 x2⟩
    · rw [if_neg e]
      exact kM_c E sk.1 (fun f hf q => by omega) ⟨fun q => q, fun q => q, fun q => q⟩ (o2 p hp)
  · intro d hd
    rw [s_dn_dn, s_cl_dn, fset_eq, if_neg (by omega)]
    exact kK_c (ti := s_ti S) E sk (fun f b hb hf q => by omega) (fun b b1 b2 q => q) (cr_hx o w hd) (o3 d hd)
  · rw [s_bg_dn]; exact kB_c E (fun q => q) o4
  · rw [s_bg_dn, s_tc_dn, s_ti_dn]; exact kX_c E sk o5
  · rw [s_ms_dn]; exact kQ_c E sk.1 (fun f hf q => by omega) (fun a ha q => q) o6
/-- a client comes up -/
theorem cr_cup (hc : c < 2) (o : CR h S T) (w : opOK S) : CR (Ufi h 107 (23 + 6 * c) 1) (s_dn_ S (fset (s_dn S) (3 + c) false)) T := by
  obtain ⟨ek, ak, k1, k2, k3, k4, k5⟩ := o.2.2.1 c hc
  have E : ext 0 (XfK (23 + 6 * c)) (XaC (23 + 6 * c)) h (Ufi h 107 (23 + 6 * c) 1) := ext_fi (Or.inl ⟨rfl, by decide⟩)
  have E' : ext 0 (fun f a => f = 107 ∧ a = 23 + 6 * c) Xa0 h (Ufi h 107 (23 + 6 * c) 1) := ext_fi ⟨rfl, rfl⟩
  have k1' := cs_c2 E' ⟨fun f a f1 f2 q => by omega, fun _ _ _ q => q⟩ (fun f b hb hf n1 n2 q => n1 q.1) ⟨fun q => q, fun q => q, fun q => q, fun q => q⟩ k1
  have r := CR_k (dn := fset (s_dn S) (3 + c) false) (z := s_cl S c) hc E w o (fun p hp => by rw [fset_eq, if_neg hp]) ⟨ek, ak, k1', k2, by rw [fset_eq, if_pos rfl, Hfi_Ufi, if_pos ⟨rfl, rfl⟩]; rfl, by rw [Hfr_Ufi]; exact k4, fun q => okAn_c E' (cr_hx o w hc q).2.1.2.2.2.1.1 (fun q => q) (k5 q)⟩
  rw [fset_id] at r
  exact r
def Xcrash (i : Int32) (S : zS) : Int32 × zS := if (0 ≤ i ∧ i < 5) ∧ s_dn S i.toNatClampNeg = false then (1, Zcrash S i.toNatClampNeg) else (0, S)
def Xrestart (i : Int32) (S : zS) : Int32 × zS := if (0 ≤ i ∧ i < 5) ∧ s_dn S i.toNatClampNeg = true then (1, Zrestart S i.toNatClampNeg) else (0, S)
theorem c100_tot (hF : 1000 ≤ F) (o : CR h S T) (w : wS S) : tot (m100 F 0 i) h (fun r h' => r = (Xcrash i S).1 ∧ (∃ T', CR h' (Xcrash i S).2 T') ∧ gw 100 h h') := by
  obtain ⟨z0, z1, z2, z3, z4, zv⟩ := cr_0 o
  unfold m100 b100_0 Xcrash
  refine tot_bind c101_eq ?_
  by_cases q1 : 0 ≤ i ∧ i < 5
  · rw [decide_eq_true q1, if_neg (by decide)]
    obtain ⟨hp, ei⟩ := i_nat_lt (n := 5) (by decide) q1
    generalize i.toNatClampNeg = p at *
    subst ei
    unfold b100_7
    rw [nn_some, mb_mr]
    refine tot_bind zv (tot_bind (c102_eq o hp) ?_)
    cases hd : s_dn S p
    · rw [if_pos (by decide), if_pos ⟨q1, rfl⟩]
      unfold b100_17 Zcrash
      rw [show (3 : Int32) = Int32.ofNat 3 from rfl]
      by_cases q : 3 ≤ p
      · rw [if_pos (by rw [i_le (by decide) (by omega)]; exact q), if_neg (by omega)]
        unfold b100_35
        rw [nn_some, mb_mr]
        refine tot_bind z1 ?_
        rw [nn_some, mb_mr, show (3 : Int32) = Int32.ofNat 3 from rfl, i_sub q (by omega)]
        refine tot_bind (cr_cli o (by omega)) ?_
        obtain ⟨ek, ak, k1, _⟩ := o.2.2.1 (p - 3) (by omega)
        rw [nn_some, mb_mr]
        refine tot_bind (ok_vc (cs_lB k1)) (tot_mb (c103_tot hF (show p - 3 < 2 by omega) o w.1) (fun _ h1 q1 => ?_))
        obtain ⟨G, r⟩ := q1
        rw [show 3 + (p - 3) = p by omega] at r
        exact tot_bind bz_1 (tot_mr ⟨rfl, ⟨T, r⟩, gw_le G (by decide)⟩)
      · rw [if_neg (by rw [i_le (by decide) (by omega)]; exact q), if_pos (by omega)]
        unfold b100_22
        rw [nn_some, mb_mr]
        refine tot_bind z0 ?_
        rw [nn_some, mb_mr]
        refine tot_bind (cr_mem o (by omega)) ?_
        rw [nn_some, mb_mr]
        refine tot_bind (ok_pz (o.2.1 p (by omega)).1.1 (Or.inl rfl)) ?_
        exact tot_bind bz_1 (tot_mr ⟨rfl, ⟨T, cr_updn (u := false) (by omega) o w.1⟩, ext_le (ext_fi (Or.inl (by omega))) (Nat.zero_le 100)⟩)
    · rw [if_neg (by decide), if_neg (fun z => by cases z.2)]
      exact tot_bind bz_0 (tot_mr ⟨rfl, ⟨T, o⟩, gw_le gw_refl (by decide)⟩)
  · rw [decide_eq_false q1, if_pos (by decide), if_neg (fun z => q1 z.1)]
    exact tot_bind bz_0 (tot_mr ⟨rfl, ⟨T, o⟩, gw_le gw_refl (by decide)⟩)
theorem c104_tot (o : CR h S T) (w : wS S) : tot (m104 F 0 i) h (fun r h' => r = (Xrestart i S).1 ∧ (∃ T', CR h' (Xrestart i S).2 T') ∧ gw 100 h h') := by
  obtain ⟨z0, z1, z2, z3, z4, zv⟩ := cr_0 o
  unfold m104 b104_0 Xrestart
  refine tot_bind c101_eq ?_
  by_cases q1 : 0 ≤ i ∧ i < 5
  · rw [decide_eq_true q1, if_neg (by decide)]
    obtain ⟨hp, ei⟩ := i_nat_lt (n := 5) (by decide) q1
    generalize i.toNatClampNeg = p at *
    subst ei
    unfold b104_7
    rw [nn_some, mb_mr]
    refine tot_bind zv (tot_bind (c102_eq o hp) ?_)
    cases hd : s_dn S p
    · rw [if_neg (by decide), if_neg (fun z => by cases z.2)]
      exact tot_bind bz_0 (tot_mr ⟨rfl, ⟨T, o⟩, gw_le gw_refl (by decide)⟩)
    · rw [if_pos (by decide), if_pos ⟨q1, rfl⟩]
      unfold b104_17 Zrestart
      rw [show (3 : Int32) = Int32.ofNat 3 from rfl]
      by_cases q : 3 ≤ p
      · rw [if_pos (by rw [i_le (by decide) (by omega)]; exact q)]
        unfold b104_35
        rw [nn_some, mb_mr]
        refine tot_bind z1 ?_
        rw [nn_some, mb_mr, show (3 : Int32) = Int32.ofNat 3 from rfl, i_sub q (by omega)]
        refine tot_bind (cr_cli o (by omega)) ?_
        obtain ⟨ek, ak, k1, _⟩ := o.2.2.1 (p - 3) (by omega)
        rw [nn_some, mb_mr]
        refine tot_bind (ok_pz (cs_lB k1) (Or.inr rfl)) ?_
        have r := cr_cup (c := p - 3) (by omega) o w.1
        rw [show 3 + (p - 3) = p by omega] at r
        exact tot_bind bz_1 (tot_mr ⟨rfl, ⟨T, r⟩, ext_le (ext_fi (Or.inl (by omega))) (Nat.zero_le 100)⟩)
      · rw [if_neg (by rw [i_le (by decide) (by omega)]; exact q)]
        unfold b104_22
        rw [nn_some, mb_mr]
        refine tot_bind z0 ?_
        rw [nn_some, mb_mr]
        refine tot_bind (cr_mem o (by omega)) ?_
        rw [nn_some, mb_mr]
        refine tot_bind (ok_pz (o.2.1 p (by omega)).1.1 (Or.inr rfl)) ?_
        exact tot_bind bz_1 (tot_mr ⟨rfl, ⟨T, cr_updn (u := true) (by omega) o w.1⟩, ext_le (ext_fi (Or.inl (by omega))) (Nat.zero_le 100)⟩)
  · rw [decide_eq_false q1, if_pos (by decide), if_neg (fun z => q1 z.1)]
    exact tot_bind bz_0 (tot_mr ⟨rfl, ⟨T, o⟩, gw_le gw_refl (by decide)⟩)
end CALL3
