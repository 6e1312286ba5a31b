/-! The class begins a transaction that a client has drafted. -/
section CL3B
variable {h h1 h2 : xv_H} {F f x y c t m n K bg B : Nat} {T : zT} {S : zS} {an : Nat → Bool} {z : zC} {Xf : Nat → Nat → Prop} {Xa : Nat → Prop} {D : zD}
theorem kI_c2 (ex : ext K Xf Xa h h1) (hB : B + 2 < Hn h) (hf : ∀ f b, (104 ≤ f ∧ f < 113 ∧ ¬ f = 107 ∧ ¬ f = 111 ∧ b = B) ∨ (202 ≤ f ∧ f < 211 ∧ b = B + 2) → ¬ Xf f b) (o : kI h B z) : kI h1 B z := by
  obtain ⟨a1, a2, a3, a4, a5, a6, a7, a8, a9, a0⟩ := o
  have g1 : ∀ f, 104 ≤ f → f < 113 → ¬ f = 107 → ¬ f = 111 → Hfr h1 f B = Hfr h f B ∧ Hfi h1 f B = Hfi h f B := fun f f1 f2 f3 f4 => ex.2.2.1 f B (by omega) (hf f B (Or.inl ⟨f1, f2, f3, f4, rfl⟩))
  have g2 : ∀ f, 202 ≤ f → f < 211 → Hfr h1 f (B + 2) = Hfr h f (B + 2) ∧ Hfi h1 f (B + 2) = Hfi h f (B + 2) := fun f f1 f2 => ex.2.2.1 f (B + 2) hB (hf f (B + 2) (Or.inr ⟨f1, f2, rfl⟩))
  exact ⟨(g1 108 (by decide) (by decide) (by decide) (by decide)).2.trans a1, fun q => (g2 203 (by decide) (by decide)).1.trans (a2 q), (g2 207 (by decide) (by decide)).2.trans a3, (g2 208 (by decide) (by decide)).2.trans a4, (g1 105 (by decide) (by decide) (by decide) (by decide)).2.trans a5, (g2 204 (by decide) (by decide)).2.trans a6, (g2 205 (by decide) (by decide)).2.trans a7, (g2 206 (by decide) (by decide)).2.trans a8, (g2 210 (by decide) (by decide)).2.trans a9, (g2 209 (by decide) (by decide)).2.trans a0⟩
/-- nothing of a client changed but up and open -/
theorem cs_c2 {R : Option Nat × Option Nat × Option Nat × Option Nat} (ex : ext K Xf Xa h h1) (cm : calm h Xf Xa) (hf : ∀ f b, (b = B ∨ b = B + 2) → f < 300 → ¬ f = 107 → ¬ f = 111 → ¬ Xf f b) (ha : ¬ Xa (B + 1) ∧ ¬ Xa (B + 3) ∧ ¬ Xa (B + 4) ∧ ¬ Xa (B + 5)) (o : cs h B c z R) : cs h1 B c z R := by
  have hl := cs_lt o
  obtain ⟨⟨f1, f2, f3, f4, f5⟩, t⟩ := o
  refine ⟨⟨kF_c ex (fun f b q => hf f b (by omega) (by omega) (by omega) (by omega)) f1, kI_c2 ex (by omega) (fun f b q => hf f b (by omega) (by omega) (by omega) (by omega)) f2, kP_c ex hl (hf _ _ (Or.inl rfl) (by decide) (by decide) (by decide)) ha.2.2.2 f3, kL_c ex hl (hf _ _ (Or.inr rfl) (by decide) (by decide) (by decide)) ha.2.1 ha.2.2.1 f4, kC_c ex cm (by omega) ha.1 f5⟩, ?_⟩
  rw [← t]
  unfold tr
  rw [(ex.2.2.1 106 B (by omega) (hf _ _ (Or.inl rfl) (by decide) (by decide) (by decide))).1, (ex.2.2.1 109 B (by omega) (hf _ _ (Or.inl rfl) (by decide) (by decide) (by decide))).1, (ex.2.2.1 110 B (by omega) (hf _ _ (Or.inl rfl) (by decide) (by decide) (by decide))).1, (ex.2.2.1 112 B (by omega) (hf _ _ (Or.inl rfl) (by decide) (by decide) (by decide))).1]
theorem okTx_num {its : List zI} (o : okTx h x c n its) : okTx (Ufi h 405 x (Int32.ofNat t)) x c t its := by
  have E : ext 0 (fun f a => f = 405 ∧ a = x) Xa0 h (Ufi h 405 x (Int32.ofNat t)) := ext_fi ⟨rfl, rfl⟩
  obtain ⟨⟨p1, ⟨p2, p3⟩, ⟨p4, p5⟩, ⟨p6, p7⟩⟩, ⟨q1, q2, q3⟩, ⟨r1, r2, r3⟩, s1, s2, s3⟩ := o
  refine ⟨⟨lv_ext E p1, ⟨lv_ext E p2, p3⟩, ⟨lv_ext E p4, p5⟩, ⟨lv_ext E p6, p7⟩⟩, ⟨by rw [Hfr_Ufi]; exact q1, by rw [Hfr_Ufi]; exact q2, by rw [Hfr_Ufi]; exact q3⟩, ⟨by rw [Hfi_Ufi, if_neg (by omega)]; exact r1, by rw [Hfi_Ufi, if_neg (by omega)]; exact r2, by rw [Hfi_Ufi, if_pos ⟨rfl, rfl⟩]⟩, s1, fun i hi => ?_, fun m hm => by rw [Hei_Ufi]; exact s3 m hm⟩
  obtain ⟨y, y1, y2⟩ := s2 i hi
  exact ⟨y, by rw [Her_Ufi]; exact y1, okI_c E ⟨fun f a f1 f2 q => by omega, fun _ _ _ q => q⟩ y2⟩
theorem cs_oas {R : Option Nat × Option Nat × Option Nat × Option Nat} {sg : Int32} (o : cs h B c z R) : cs h B c (c_sg_ (c_an_ (c_op_ z t) an) sg) R := o
theorem kQ_T {T2 : zT} {ms : List zM} (hT : ∀ i, i < ms.length → T2 (ms.getD i zm0).2.1 = T (ms.getD i zm0).2.1) (o : kQ h T ms) : kQ h T2 ms := by
  obtain ⟨p1, p2, p3, p4⟩ := o
  refine ⟨p1, p2, p3, ?_⟩
  rcases p4 with q | ⟨ed, q, r0, r1, r2, r3, r4, r5⟩
  · exact Or.inl q
  · refine Or.inr ⟨ed, q, r0, r1, r2, r3, r4, fun i hi => ?_⟩
    obtain ⟨x, x1, y1, y2, y3, y4, y5⟩ := r5 i hi
    exact ⟨x, x1, y1, y2, by rw [hT i hi]; exact y3, y4, y5⟩
def msOK (S : zS) : Prop := ∀ i, i < (s_ms S).length → 1 ≤ ((s_ms S).getD i zm0).2.1 ∧ ((s_ms S).getD i zm0).2.1 ≤ s_bg S
def XfB (c : Nat) : Nat → Nat → Prop := fun f a => XfK (23 + 6 * c) f a ∨ (f = 4 ∧ a = 0)
def XaB (c : Nat) : Nat → Prop := fun a => XaC (23 + 6 * c) a ∨ a = 36
theorem sfB (hc : c < 2) : sf h (XfB c) (XaB c) := by
  refine ⟨⟨fun f a f1 f2 q => by unfold XfB XfK at q; omega, fun a i _ q => by unfold im at i; unfold XaB XaC at q; omega⟩, fun f b f1 f2 q => by unfold XfB XfK at q; omega, fun a h1 _ q => by unfold XaB XaC at q; omega⟩
/-- the state with a transaction begun, nothing sent -/
def Zbeg0 (S : zS) (c : Nat) (z : zC) (its : List zI) (sg : Int32) : zS := s_ti_ (s_tc_ (s_bg_ (s_cl_ S (fset (s_cl S) c (c_sg_ (c_an_ (c_op_ z (s_bg S + 1)) (fun _ => false)) sg))) (s_bg S + 1)) (fset (s_tc S) (s_bg S + 1) c)) (fset (s_ti S) (s_bg S + 1) its)
theorem CR_beg {its : List zI} {sg : Int32} {e a : Option Nat} (hc : c < 2) (E : ext K (XfB c) (XaB c) h h1) (o : CR h S T) (w : opOK S) (wm : msOK S) (c4 : Hfi h1 4 0 = Int32.ofNat (s_bg S + 1)) (oc : cs h1 (23 + 6 * c) c z (e, some (xv_SB + 11), a, none)) (ha : a = some (xv_SB + 11 + sg.toNatClampNeg)) (hup : Hfi h1 107 (23 + 6 * c) = b2i (!(s_dn S (3 + c)))) (hop : Hfr h1 111 (23 + 6 * c) = some x) (hx : 77 ≤ x) (ot : okTx h1 x c (s_bg S + 1) its) (oa : okAn h1 x (fun _ => false)) (b36 : ∀ t, Her h1 36 t = if t = s_bg S + 1 then some x else Her h 36 t) : CR h1 (Zbeg0 S c z its sg) (fset T (s_bg S + 1) x) := by
  obtain ⟨o1, o2, o3, o4, o5, o6⟩ := id o
  have sk := sfB (h := h) hc
  have e_bg : s_bg (Zbeg0 S c z its sg) = s_bg S + 1 := (rfl)
  have e_dn : s_dn (Zbeg0 S c z its sg) = s_dn S := (rfl)
  have e_ce : s_ce (Zbeg0 S c z its sg) = s_ce S := (rfl)
  have e_lk : s_lk (Zbeg0 S c z its sg) = s_lk S := (rfl)
  have e_rm : s_rm (Zbeg0 S c z its sg) = s_rm S := (rfl)
  have e_cl : s_cl (Zbeg0 S c z its sg) = fset (s_cl S) c (c_sg_ (c_an_ (c_op_ z (s_bg S + 1)) (fun _ => false)) sg) := (rfl)
  have e_tc : s_tc (Zbeg0 S c z its sg) = fset (s_tc S) (s_bg S + 1) c := (rfl)
  have e_ti : s_ti (Zbeg0 S c z its sg) = fset (s_ti S) (s_bg S + 1) its := (rfl)
  have e_ms : s_ms (Zbeg0 S c z its sg) = s_ms S := (rfl)
  have Tlt : ∀ t, t ≤ s_bg S → fset T (s_bg S + 1) x t = T t := fun t ht => by rw [fset_eq, if_neg (by omega)]
  refine ⟨?_, ?_, ?_, ?_, ?_, ?_⟩
  · rw [e_bg]
    obtain ⟨⟨p1, p2, p3, p4, p5, p6⟩, ⟨q1, q2, q3⟩, ⟨r1, r2, r3⟩⟩ := o1
    have g : ∀ f, f < 4 → Hfr h1 f 0 = Hfr h f 0 := fun f f1 => (E.2.2.1 f _ p1.1 (fun q => by unfold XfB XfK at q; omega)).1
    exact ⟨⟨lv_ext E p1, (g 0 (by decide)).trans p2, (g 1 (by decide)).trans p3, (g 2 (by decide)).trans p4, (g 3 (by decide)).trans p5, c4⟩, ⟨lv_ext E q1, (E.2.1 _ q1.1).2.trans q2, fun m hm => (E.2.2.2 _ _ q1.1 (by unfold XaB XaC; omega)).1.trans (q3 m hm)⟩, ⟨lv_ext E r1, (E.2.1 _ r1.1).2.trans r2, fun m hm => (E.2.2.2 _ _ r1.1 (by unfold XaB XaC; omega)).1.trans (r3 m hm)⟩⟩
  · intro m hm
    rw [e_dn, e_ce, e_lk, e_rm]
    exact kM_c E sk.1 (fun f hf q => by unfold XfB XfK at q; omega) ⟨by unfold XaB XaC; omega, by unfold XaB XaC; omega, by unfold XaB XaC; omega⟩ (o2 m hm)
  · intro d hd
    rw [e_dn, e_cl, fset_eq]
    by_cases q : d = c
    · rw [if_pos q, q]
      refine ⟨e, a, cs_oas oc, fun _ => by rw [c_sg_sg]; exact ha, hup, ?_, fun _ => ?_⟩
      · rw [c_op_sg, c_op_an, c_op_op, if_neg (by omega), fset_eq, if_pos rfl]; exact hop
      · rw [c_op_sg, c_op_an, c_op_op, c_an_sg, c_an_an, fset_eq, if_pos rfl]; exact oa
    · rw [if_neg q]
      obtain ⟨e2, a2, k1, k2, k3, k4, k5⟩ := kK_c (ti := s_ti S) E sk (fun f b hb hf q => by unfold XfB XfK at q; omega) (fun b b1 b2 => by unfold XaB XaC; omega) (cr_hx o w hd) (o3 d hd)
      have := w d hd
      exact ⟨e2, a2, k1, k2, k3, by rw [Tlt _ (w d hd)]; exact k4, by rw [Tlt _ (w d hd)]; exact k5⟩
  · rw [e_bg]
    refine ⟨lv_ext E o4.1, (E.2.1 _ o4.1.1).2.trans o4.2.1, fun t t1 t2 => ?_⟩
    rw [b36, fset_eq]
    by_cases q : t = s_bg S + 1
    · rw [if_pos q, if_pos q]
    · rw [if_neg q, if_neg q]; exact o4.2.2 t t1 (by omega)
  · rw [e_bg, e_tc, e_ti]
    intro t t1 t2
    by_cases q : t = s_bg S + 1
    · rw [q, fset_eq, if_pos rfl, fset_eq, if_pos rfl, fset_eq, if_pos rfl]
      exact ⟨hx, ot⟩
    · rw [fset_eq, if_neg q, fset_eq, if_neg q, fset_eq, if_neg q]
      exact kX_c E sk o5 t t1 (by omega)
  · rw [e_ms]
    exact kQ_T (fun i hi => Tlt _ (wm i hi).2) (kQ_c E sk.1 (fun f hf q => by unfold XfB XfK at q; omega) (fun a ha q => by have := ha.1; unfold XaB XaC at q; omega) o6)
theorem ext_C_K {B : Nat} (E : ext K (XfC B) (XaC B) h h1) : ext K (XfK B) (XaC B) h h1 := ext_mono E (Nat.le_refl _) (fun _ _ q => XfC_K q) (fun _ q => q)
theorem fun_not_false (its : List zI) : (fun p => tp its p && !((fun _ => false : Nat → Bool) p)) = tp its := by funext p; simp
theorem isB_c (hc : c < 2) : isB (23 + 6 * c) := by unfold isB; omega
theorem c50_tot {e' a' d' : Option Nat} (hF : 1000 ≤ F) (hc : c < 2) (o : CR h S T) (w : opOK S) (wm : msOK S) (op0 : c_op (s_cl S c) = 0) (opD : c_op D.1 = 0) (hbg : s_bg S < 512) (g : hb 200 h) (E : ext 60 (XfC (23 + 6 * c)) (XaC (23 + 6 * c)) h h1) (oc : cs h1 (23 + 6 * c) c D.1 (e', some (xv_SB + 11), a', d')) (od : dft h h1 c a' d' D.2) : tot (m50 F 0 (some (23 + 6 * c))) h1 (fun _ h' => ∃ T', CR h' (Zbegin S c D) T' ∧ gw 70 h h') := by
  have hB := isB_c hc
  obtain ⟨o1, o2, o3, o4, o5, o6⟩ := id o
  obtain ⟨ek, ak, k1, k2, k3, k4, k5⟩ := o3 c hc
  rw [if_pos op0] at k4
  have hl := cs_lt k1
  have f107 : Hfi h1 107 (23 + 6 * c) = b2i (!(s_dn S (3 + c))) := (E.2.2.1 _ _ (by omega) (fun q => by unfold XfC at q; omega)).2.trans k3
  have f111 : Hfr h1 111 (23 + 6 * c) = none := (E.2.2.1 _ _ (by omega) (fun q => by unfold XfC at q; omega)).1.trans k4
  have EK := ext_C_K E
  unfold m50 b50_0
  rw [nn_some, mb_mr]
  refine tot_bind (cs_112 oc) (tot_bind (ok_pr (cs_lB oc)) ?_)
  dsimp only
  have oc2 := cs_drf hB none oc
  have E12 : ext 0 (XfK (23 + 6 * c)) (XaC (23 + 6 * c)) h1 (Ufr h1 112 (23 + 6 * c) none) := ext_fr (Or.inl ⟨rfl, by decide⟩)
  have E12' : ext 0 (fun f a => f = 112 ∧ a = 23 + 6 * c) Xa0 h1 (Ufr h1 112 (23 + 6 * c) none) := ext_fr ⟨rfl, rfl⟩
  have g107 : Hfi (Ufr h1 112 (23 + 6 * c) none) 107 (23 + 6 * c) = b2i (!(s_dn S (3 + c))) := by rw [Hfi_Ufr]; exact f107
  have g111 : Hfr (Ufr h1 112 (23 + 6 * c) none) 111 (23 + 6 * c) = none := by rw [Hfr_Ufr, if_neg (by omega)]; exact f111
  generalize Ufr h1 112 (23 + 6 * c) none = h2 at *
  have E2 : ext 60 (XfK (23 + 6 * c)) (XaC (23 + 6 * c)) h h2 := ext_trans (k1 := 60) (k2 := 0) EK E12
  obtain ⟨z, D2⟩ := D
  cases D2 with
  | none =>
    have dn : d' = none := od
    rw [dn, if_neg (by simp)]
    have r := CR_k (dn := s_dn S) (z := z) hc E2 w o (fun _ _ => rfl) ⟨e', a', oc2, fun q => absurd opD q, g107, by rw [if_pos opD]; exact g111, fun q => absurd opD q⟩
    exact tot_mr ⟨T, r, gw_le (gw_K hc E2) (by decide)⟩
  | some r =>
    obtain ⟨its, sg⟩ := r
    obtain ⟨x, rfl, hx, ha, ot, oa⟩ := od
    have hx7 : 77 ≤ x := Nat.le_trans g.1 hx
    rw [if_pos (by simp)]
    have cm2 : calm h1 (fun f a => f = 112 ∧ a = 23 + 6 * c) Xa0 := ⟨fun f a f1 f2 q => by omega, fun _ _ _ q => q⟩
    have ot2 := okTx_c E12' cm2 (fun f f1 f2 q => by omega) (fun q => q) (fun q => q) ot
    have oa2 := okAn_c E12' ot.1.2.2.2.1.1 (fun q => q) oa
    have kT2 := kT_c E2 (fun f hf q => by unfold XfK at q; omega) ⟨by unfold XaC; omega, by unfold XaC; omega⟩ o1
    have kB2 := kB_c E2 (by unfold XaC; omega) o4
    have b36 : ∀ t, Her h2 36 t = Her h 36 t := fun t => (E2.2.2.2 36 t o4.1.1 (by unfold XaC; omega)).1
    obtain ⟨⟨t1, t2, t3, t4, t5, t6⟩, _⟩ := kT2
    unfold b50_15
    rw [nn_some, mb_mr]
    refine tot_bind (by rw [ok_gi t1, t6]) ?_
    rw [show (512 : Int32) = Int32.ofNat 512 from rfl, if_pos (by rw [i_lt (by omega) (by decide)]; exact hbg)]
    unfold b50_34
    rw [nn_some, mb_mr]
    refine tot_bind (by rw [ok_gi t1, t6]) (tot_bind (ok_pi t1) ?_)
    rw [i_add1]
    -- begunCount
    have E23 : ext 0 (fun f a => f = 4 ∧ a = 0) Xa0 h2 (Ufi h2 4 0 (Int32.ofNat (s_bg S + 1))) := ext_fi ⟨rfl, rfl⟩
    have v4 : Hfi (Ufi h2 4 0 (Int32.ofNat (s_bg S + 1))) 4 0 = Int32.ofNat (s_bg S + 1) := by rw [Hfi_Ufi, if_pos ⟨rfl, rfl⟩]
    have v3 : Hfr (Ufi h2 4 0 (Int32.ofNat (s_bg S + 1))) 3 0 = some 36 := by rw [Hfr_Ufi]; exact t5
    generalize Ufi h2 4 0 (Int32.ofNat (s_bg S + 1)) = h3 at *
    have l3 := lv_ext E23 t1
    refine tot_bind (by rw [ok_gr l3, v3]) (tot_bind (by rw [ok_gi l3, v4]) ?_)
    rw [nn_some, mb_mr]
    have l36 := lv_ext E23 kB2.1
    have h36 : Hl h3 36 = 513 := (E23.2.1 _ kB2.1.1).2.trans kB2.2.1
    have lx3 := lv_ext E23 ot2.1.1
    refine tot_bind (ok_sr l36 (i_nn (by omega)) (by rw [i_nat (by omega), h36]; omega) (fun b e => by cases e; exact lx3)) ?_
    rw [i_nat (by omega)]
    have E34 : ext 0 Xf0 (fun a => a = 36) h3 (Uer h3 36 (s_bg S + 1) (some x)) := ext_er rfl
    have w36 : ∀ t, Her (Uer h3 36 (s_bg S + 1) (some x)) 36 t = if t = s_bg S + 1 then some x else Her h 36 t := by
      intro t
      rw [Her_Uer]
      by_cases q : t = s_bg S + 1
      · rw [if_pos ⟨rfl, q⟩, if_pos q]
      · rw [if_neg (fun z => q z.2), if_neg q, (E23.2.2.2 36 t kB2.1.1 (fun q => q)).1]; exact b36 t
    generalize Uer h3 36 (s_bg S + 1) (some x) = h4 at *
    have l4 := lv_ext E34 l3
    have u4 : Hfi h4 4 0 = Int32.ofNat (s_bg S + 1) := (E34.2.2.1 4 0 l3.1 (fun q => q)).2.trans v4
    refine tot_bind (by rw [ok_gi l4, u4]) ?_
    rw [nn_some, mb_mr]
    have lx4 := lv_ext E34 lx3
    refine tot_bind (ok_pi lx4) ?_
    have E24 : ext 0 (fun f a => f = 4 ∧ a = 0) (fun a => a = 36) h2 h4 := ext_trS (k1 := 0) (k2 := 0) (ext_mono E23 (Nat.le_refl 0) (fun _ _ q => q) (fun _ q => q.elim)) E34 (fun _ _ q => q.elim) (fun _ q => Or.inl q)
    have cm24 : calm h2 (fun f a => f = 4 ∧ a = 0) (fun a => a = 36) := ⟨fun f a f1 f2 q => by omega, fun a i _ q => by unfold im at i; omega⟩
    have ot4 := okTx_c E24 cm24 (fun f f1 f2 q => by omega) (by omega) (by omega) ot2
    have oa4 := okAn_c E24 ot2.1.2.2.2.1.1 (by omega) oa2
    have ot5 := okTx_num (t := s_bg S + 1) ot4
    have E45 : ext 0 (fun f a => f = 405 ∧ a = x) Xa0 h4 (Ufi h4 405 x (Int32.ofNat (s_bg S + 1))) := ext_fi ⟨rfl, rfl⟩
    have u5 : Hfi (Ufi h4 405 x (Int32.ofNat (s_bg S + 1))) 4 0 = Int32.ofNat (s_bg S + 1) := by rw [Hfi_Ufi, if_neg (by omega)]; exact u4
    have oa5 := okAn_c E45 ot4.1.2.2.2.1.1 (fun q => q) oa4
    generalize Ufi h4 405 x (Int32.ofNat (s_bg S + 1)) = h5 at *
    have E25 : ext 0 (fun f a => (f = 4 ∧ a = 0) ∨ (f = 405 ∧ a = x)) (fun a => a = 36) h2 h5 := ext_trS (k1 := 0) (k2 := 0) (ext_mono E24 (Nat.le_refl 0) (fun _ _ q => Or.inl q) (fun _ q => q)) E45 (fun _ _ q => Or.inl (Or.inr q)) (fun _ q => q.elim)
    have cm25 : calm h2 (fun f a => (f = 4 ∧ a = 0) ∨ (f = 405 ∧ a = x)) (fun a => a = 36) := ⟨fun f a f1 f2 q => by omega, fun a i _ q => by unfold im at i; omega⟩
    have oc5 := cs_c2 E25 cm25 (fun f b hb hf _ _ q => by omega) ⟨by omega, by omega, by omega, by omega⟩ oc2
    have hl2 := cs_lt oc2
    have g107' : Hfi h5 107 (23 + 6 * c) = b2i (!(s_dn S (3 + c))) := (E25.2.2.1 107 _ (by omega) (fun q => by omega)).2.trans g107
    rw [nn_some, mb_mr]
    refine tot_bind (ok_pr (cs_lB oc5)) ?_
    have E56 : ext 0 (fun f a => f = 111 ∧ a = 23 + 6 * c) Xa0 h5 (Ufr h5 111 (23 + 6 * c) (some x)) := ext_fr ⟨rfl, rfl⟩
    have cm56 : calm h5 (fun f a => f = 111 ∧ a = 23 + 6 * c) Xa0 := ⟨fun f a f1 f2 q => by omega, fun a i _ q => q⟩
    have oc6 := cs_c2 E56 cm56 (fun f b hb hf _ n q => n q.1) ⟨fun q => q, fun q => q, fun q => q, fun q => q⟩ oc5
    have ot6 := okTx_c E56 cm56 (fun f f1 f2 q => by omega) (fun q => q) (fun q => q) ot5
    have oa6 := okAn_c E56 ot5.1.2.2.2.1.1 (fun q => q) oa5
    have y107 : Hfi (Ufr h5 111 (23 + 6 * c) (some x)) 107 (23 + 6 * c) = b2i (!(s_dn S (3 + c))) := by rw [Hfi_Ufr]; exact g107'
    have y111 : Hfr (Ufr h5 111 (23 + 6 * c) (some x)) 111 (23 + 6 * c) = some x := by rw [Hfr_Ufr, if_pos ⟨rfl, rfl⟩]
    have u6 : Hfi (Ufr h5 111 (23 + 6 * c) (some x)) 4 0 = Int32.ofNat (s_bg S + 1) := by rw [Hfi_Ufr]; exact u5
    have w36' : ∀ t, Her (Ufr h5 111 (23 + 6 * c) (some x)) 36 t = if t = s_bg S + 1 then some x else Her h 36 t := by
      intro t
      rw [Her_Ufr, (E45.2.2.2 36 t (lv_ext E34 l36).1 (fun q => q)).1]
      exact w36 t
    generalize Ufr h5 111 (23 + 6 * c) (some x) = h6 at *
    have E26 : ext 0 (fun f a => ((f = 4 ∧ a = 0) ∨ (f = 405 ∧ a = x)) ∨ (f = 111 ∧ a = 23 + 6 * c)) (fun a => a = 36) h2 h6 := ext_trS (k1 := 0) (k2 := 0) (ext_mono E25 (Nat.le_refl 0) (fun _ _ q => Or.inl q) (fun _ q => q)) E56 (fun _ _ q => Or.inl (Or.inr q)) (fun _ q => q.elim)
    have E6 : ext 60 (XfB c) (XaB c) h h6 := ext_trS (k1 := 60) (k2 := 0) (ext_mono E2 (Nat.le_refl 60) (fun _ _ q => Or.inl q) (fun _ q => Or.inl q)) E26 (fun f a q => by
      rcases q with (q | q) | q
      · exact Or.inl (Or.inr q)
      · exact Or.inr (by omega)
      · exact Or.inl (Or.inl (Or.inl ⟨q.2, by omega⟩))) (fun a q => Or.inl (Or.inr q))
    have r := CR_beg (sg := sg) hc E6 o w wm u6 oc6 ha y107 y111 hx7 ot6 oa6 w36'
    have w6 : opOK (Zbeg0 S c z its sg) := by
      intro d hd
      show c_op (fset (s_cl S) c (c_sg_ (c_an_ (c_op_ z (s_bg S + 1)) (fun _ => false)) sg) d) ≤ s_bg S + 1
      rw [fset_eq]
      by_cases q : d = c
      · rw [if_pos q, c_op_sg, c_op_an, c_op_op]; exact Nat.le_refl _
      · rw [if_neg q]; exact Nat.le_succ_of_le (w d hd)
    have eT : fset T (s_bg S + 1) x (s_bg S + 1) = x := by rw [fset_eq, if_pos rfl]
    have c51 := c51_tot (F := F) (S := Zbeg0 S c z its sg) (T := fset T (s_bg S + 1) x) (t := s_bg S + 1) (an := fun _ => false) hF (by omega) (Nat.le_refl _) r w6 (hb_ext (K := 60) (r := 40) E6 (hb_le g (by decide))) (by rw [eT]; exact oa6)
    rw [eT] at c51
    refine tot_bind (ok_vc r.1.1.1) (tot_mb c51 (fun _ h7 q7 => ?_))
    obtain ⟨_, E7, r7⟩ := q7
    have G6 : gw 60 h h6 := ext_mono E6 (Nat.le_refl _) (fun f a q => by unfold XfB XfK at q; omega) (fun a q => by unfold XaB XaC at q; omega)
    refine tot_mr ⟨fset T (s_bg S + 1) x, ?_, gw_le (gw_trans G6 (gw_Q E7)) (by decide)⟩
    have hti : s_ti (Zbeg0 S c z its sg) (s_bg S + 1) = its := by
      show fset (s_ti S) (s_bg S + 1) its (s_bg S + 1) = its
      rw [fset_eq, if_pos rfl]
    rw [hti, fun_not_false] at r7
    exact r7
end CL3B
