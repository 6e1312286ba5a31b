/-! The class hears an answer. -/
section HEAR
variable {h h1 h2 : xv_H} {F f x y c t m n K bg B : Nat} {T : zT} {S : zS} {z : zC} {D : zD}
theorem cqA {h : xv_H} {w1 w2 : Option Nat} (h1 : ∀ a, w1 = some a → a < xv_SB) (h2 : ∀ a, w2 = some a → a < xv_SB) : cq w1 w2 h = some ((), h) := by
  unfold cq
  refine if_pos ?_
  cases w1 with
  | none => rfl
  | some a => cases w2 with
    | none => rfl
    | some b =>
      unfold xv_cok
      exact decide_eq_true (Or.inr (Or.inl ⟨h1 a rfl, Or.inl (h2 b rfl)⟩))
theorem T_inj (o : CR h S T) {p q : Nat} (p1 : 1 ≤ p) (p2 : p ≤ s_bg S) (q1 : 1 ≤ q) (q2 : q ≤ s_bg S) (hb : s_bg S ≤ 512) (e : T p = T q) : p = q := by
  have a := (cr_tx o p1 p2).2.2.2.1.2.2
  have b := (cr_tx o q1 q2).2.2.2.1.2.2
  rw [e, b] at a
  exact ((i_eq (by omega) (by omega)).mp a).symm
/-- open becomes null -/
def X111 (c : Nat) : Nat → Nat → Prop := fun f a => f = 111 ∧ a = 23 + 6 * c
theorem X111_K (E : ext K (X111 c) Xa0 h h1) : ext K (XfK (23 + 6 * c)) (XaC (23 + 6 * c)) h h1 := ext_mono E (Nat.le_refl _) (fun f a q => by unfold X111 at q; unfold XfK; omega) (fun _ q => q.elim)
theorem cr_close (hc : c < 2) (o : CR h S T) (w : opOK S) : ext 0 (X111 c) Xa0 h (Ufr h 111 (23 + 6 * c) none) ∧ CR (Ufr h 111 (23 + 6 * c) none) (s_cl_ S (fset (s_cl S) c (c_op_ (s_cl S c) 0))) T := by
  obtain ⟨o1, o2, o3, o4, o5, o6⟩ := id o
  obtain ⟨ek, ak, k1, k2, k3, k4, k5⟩ := o3 c hc
  have E : ext 0 (XfK (23 + 6 * c)) (XaC (23 + 6 * c)) h (Ufr h 111 (23 + 6 * c) none) := ext_fr (Or.inl ⟨rfl, by decide⟩)
  have E' : ext 0 (fun f a => f = 111 ∧ a = 23 + 6 * c) Xa0 h (Ufr h 111 (23 + 6 * c) none) := ext_fr ⟨rfl, rfl⟩
  refine ⟨E', CR_k (dn := s_dn S) hc E w o (fun _ _ => rfl) ⟨ek, ak, ?_, fun q => absurd (by rw [c_op_op]) q, ?_, ?_, fun q => absurd (by rw [c_op_op]) q⟩⟩
  · have : cs (Ufr h 111 (23 + 6 * c) none) (23 + 6 * c) c (s_cl S c) (ek, some (xv_SB + 11), ak, none) := cs_c2 E' ⟨fun f a f1 f2 q => by omega, fun _ _ _ q => q⟩ (fun f b hb hf _ n q => n q.1) ⟨fun q => q, fun q => q, fun q => q, fun q => q⟩ k1
    exact this
  · rw [Hfi_Ufr]; exact k3
  · rw [c_op_op, if_pos rfl, Hfr_Ufr, if_pos ⟨rfl, rfl⟩]
/-- the end of a hearing -/
theorem c77_end (hF : 1000 ≤ F) (hc : c < 2) (o : CR h S T) (w : opOK S) (wm : msOK S) (op0 : c_op (s_cl S c) = 0) (opD : c_op D.1 = 0) (hbg : s_bg S < 512) (g : hb 200 h) (E : ext 0 (XfC (23 + 6 * c)) (XaC (23 + 6 * c)) h h1) (r : RDY F h1 (23 + 6 * c) c D) : tot (b77_105 F (some 0) (some (23 + 6 * c))) h1 (fun _ h' => ∃ T', CR h' (Zbegin S c D) T' ∧ gw 70 h h') := by
  unfold b77_105
  rw [nn_some, mb_mr]
  refine tot_bind (ok_vc r.1) (tot_mb r.2 (fun _ h2 q => ?_))
  obtain ⟨e', a', d', E2, oc, od⟩ := AD_tr E q
  have l0 := lv_ext E2 o.1.1.1
  rw [nn_some, mb_mr]
  refine tot_bind (ok_vc l0) (tot_mb (c50_tot hF hc o w wm op0 opD hbg g E2 oc od) (fun _ h3 q3 => tot_mr q3))
theorem opOK_cl0 (w : opOK S) {z : zC} (hz : c_op z = 0) : opOK (s_cl_ S (fset (s_cl S) c z)) := by
  intro d hd
  rw [s_cl_cl, s_bg_cl, fset_eq]
  split
  · omega
  · exact w d hd
theorem msOK_cl {f : Nat → zC} (w : msOK S) : msOK (s_cl_ S f) := w
theorem snd_mem {ms : List zM} {M : zM} {P : zM → Prop} (h : ∀ i, i < ms.length → P (ms.getD i zm0)) (hM : P M) : ∀ i, i < (snd_ ms M).length → P ((snd_ ms M).getD i zm0) := by
  unfold snd_
  split
  · intro i hi
    rw [List.length_append] at hi
    by_cases q : i < ms.length
    · rw [getD_app_lt q]; exact h i q
    · have : i = ms.length := by have : [M].length = 1 := rfl; omega
      rw [this, getD_app_eq]; exact hM
  · exact h
theorem snd3_mem {Q : Nat → Bool} {k : Int32} {t : Nat} {ms : List zM} {P : zM → Prop} (h : ∀ i, i < ms.length → P (ms.getD i zm0)) (hM : ∀ m, m < 3 → Q m = true → P (k, t, m, none)) : ∀ i, i < (snd3 Q k t ms).length → P ((snd3 Q k t ms).getD i zm0) := by
  rw [snd3_eq]
  have s0 : ∀ i, i < (if Q 0 then snd_ ms (k, t, 0, none) else ms).length → P ((if Q 0 then snd_ ms (k, t, 0, none) else ms).getD i zm0) := by
    split
    · rename_i q; exact snd_mem h (hM 0 (by decide) q)
    · exact h
  generalize (if Q 0 then snd_ ms (k, t, 0, none) else ms) = a at *
  have s1 : ∀ i, i < (if Q 1 then snd_ a (k, t, 1, none) else a).length → P ((if Q 1 then snd_ a (k, t, 1, none) else a).getD i zm0) := by
    split
    · rename_i q; exact snd_mem s0 (hM 1 (by decide) q)
    · exact s0
  generalize (if Q 1 then snd_ a (k, t, 1, none) else a) = b at *
  split
  · rename_i q; exact snd_mem s1 (hM 2 (by decide) q)
  · exact s1
theorem snd3_all {P : Nat → Bool} {k : Int32} {t : Nat} {ms : List zM} : snd3 (fun p => P p && p != 3) k t ms = snd3 P k t ms := by
  rw [snd3_eq, snd3_eq]
  have e0 : (P 0 && 0 != 3) = P 0 := by simp
  have e1 : (P 1 && 1 != 3) = P 1 := by simp
  have e2 : (P 2 && 2 != 3) = P 2 := by simp
  rw [e0, e1, e2]
theorem msOK_v {Q : Nat → Bool} {k : Int32} {b : Bool} (t1 : 1 ≤ t) (t2 : t ≤ s_bg S) (w : msOK S) : msOK (s_ms_ S (if b then snd3 Q k t (s_ms S) else s_ms S)) := by
  cases b
  · exact w
  · exact snd3_mem (P := fun M => 1 ≤ M.2.1 ∧ M.2.1 ≤ s_bg S) w (fun _ _ _ => ⟨t1, t2⟩)
/-- an answer comes in -/
theorem cr_an (hc : c < 2) (hm : m < 3) (o : CR h S T) (w : opOK S) (wc : ∀ d, d < 2 → ¬ c_op (s_cl S d) = 0 → s_tc S (c_op (s_cl S d)) = d) (hop : c_op (s_cl S c) = t) (t1 : 1 ≤ t) (t2 : t ≤ s_bg S) (hbg : s_bg S ≤ 512) : ext 0 Xf0 (fun a => a = T t + 3) h (Uei h (T t + 3) m 1) ∧ CR (Uei h (T t + 3) m 1) (s_cl_ S (fset (s_cl S) c (c_an_ (s_cl S c) (fset (c_an (s_cl S c)) m true)))) T := by
  obtain ⟨o1, o2, o3, o4, o5, o6⟩ := id o
  obtain ⟨x7, ot⟩ := cr_tx o t1 t2
  have E : ext 0 Xf0 (fun a => a = T t + 3) h (Uei h (T t + 3) m 1) := ext_ei rfl
  have cm : calm h Xf0 (fun a => a = T t + 3) := ⟨fun _ _ _ _ q => q, fun a i ht q => by rw [q, ot.1.2.2.2.1.2.2] at ht; cases ht⟩
  refine ⟨E, ?_, ?_, ?_, ?_, ?_, ?_⟩
  · rw [s_bg_cl]; exact kT_c E (fun f hf q => q) ⟨by omega, by omega⟩ o1
  · intro p hp
    rw [s_dn_cl, s_ce_cl, s_lk_cl, s_rm_cl]
    exact kM_c E cm (fun f hf q => q) ⟨by omega, by omega, by omega⟩ (o2 p hp)
  · intro d hd
    rw [s_dn_cl, s_cl_cl, fset_eq]
    obtain ⟨ek, ak, k1, k2, k3, k4, k5⟩ := o3 d hd
    have k1' := cs_c E cm (fun f b _ _ q => q) ⟨by omega, by omega, by omega, by omega⟩ k1
    by_cases e : d = c
    · subst e
      rw [if_pos rfl]
      refine ⟨ek, ak, k1', ?_, ?_, ?_, ?_⟩
      · rw [c_op_an, c_sg_an]; exact k2
      · rw [Hfi_Uei]; exact k3
      · rw [c_op_an, Hfr_Uei]; exact k4
      · rw [c_op_an, c_an_an]
        intro q
        have oa := k5 q
        rw [hop] at oa ⊢
        intro p hp
        rw [Hei_Uei, fset_eq]
        by_cases e : p = m
        · rw [if_pos ⟨rfl, e⟩, if_pos e]; rfl
        · rw [if_neg (fun z => e z.2), if_neg e]; exact oa p hp
    · rw [if_neg e]
      refine ⟨ek, ak, k1', k2, ?_, ?_, fun q => ?_⟩
      · rw [Hfi_Uei]; exact k3
      · rw [Hfr_Uei]; exact k4
      · have hx := cr_hx o w hd q
        refine okAn_c E hx.2.1.2.2.2.1.1 (fun z => ?_) (k5 q)
        have e1 : T (c_op (s_cl S d)) = T t := by omega
        have e2 := T_inj o (by omega) (w d hd) t1 t2 hbg e1
        have a1 := wc d hd q
        have a2 := wc c hc (by omega)
        rw [hop] at a2
        rw [e2, a2] at a1
        exact e a1.symm
  · rw [s_bg_cl]; exact kB_c E (by omega) o4
  · rw [s_bg_cl, s_tc_cl, s_ti_cl]
    intro p p1 p2
    obtain ⟨q1, q2⟩ := o5 p p1 p2
    refine ⟨q1, okTx_c E cm (fun f _ _ q => q) (fun q => ?_) (fun q => ?_) q2⟩
    · have a := q2.1.2.1.1.2.2
      rw [q, ot.1.2.2.2.1.2.2] at a; cases a
    · have e1 : T p = T t + 1 := by omega
      have a := q2.1.1.2.2
      rw [e1, ot.1.2.1.1.2.2] at a; cases a
  · rw [s_ms_cl]; exact kQ_c E cm (fun f hf q => q) (fun a ha q => by have := ha.2; rw [q, ot.1.2.2.2.1.2.2] at this; cases this) o6
theorem c77_tot {k : Int32} {so : Option (Int32 × zN)} (hF : 1000 ≤ F) (o : CR h S T) (w : opOK S) (wm : msOK S) (wc : ∀ d, d < 2 → ¬ c_op (s_cl S d) = 0 → s_tc S (c_op (s_cl S d)) = d) (t1 : 1 ≤ t) (t2 : t ≤ s_bg S) (hbg : s_bg S < 512) (hc : s_tc S t < 2) (hm : m < 3) (oM : okM h T x (k, t, m, so)) (g : hb 300 h)
    (hy : c_op (s_cl S (s_tc S t)) = t → okY (s_cl S (s_tc S t)) ∧ (c_sg (s_cl S (s_tc S t)) = 1 ∨ c_sg (s_cl S (s_tc S t)) = 2 ∨ c_sg (s_cl S (s_tc S t)) = 3) ∧ (c_sg (s_cl S (s_tc S t)) = 1 → lastOK (c_cp (s_cl S (s_tc S t))) (c_pa (s_cl S (s_tc S t))) ∧ (¬ (c_pa (s_cl S (s_tc S t))).length = 1 → ¬ zpar (c_pa (s_cl S (s_tc S t))) = zlast (c_pa (s_cl S (s_tc S t))))))
    (hso : ∀ v, so = some v → wfV v.2) : tot (m77 F 0 (some x)) h (fun _ h' => ∃ T', CR h' (Zhear k t m so S) T' ∧ gw 90 h h') := by
  obtain ⟨o1, o2, o3, o4, o5, o6⟩ := id o
  obtain ⟨⟨a1, a2, a3, a4, a5, a6⟩, _, ⟨b1, b2, b3⟩⟩ := id o1
  obtain ⟨M1, M2, M3, M4, M5⟩ := id oM
  dsimp only at M2 M3 M4 M5
  obtain ⟨x7, ot⟩ := cr_tx o t1 t2
  obtain ⟨v4, d1, d2, d3, d4, _⟩ := okTx_d ot
  unfold Zhear
  dsimp only
  generalize hcc : s_tc S t = c at *
  obtain ⟨ek, ak, k1, k2, k3, k4, k5⟩ := o3 c hc
  unfold m77 b77_0
  rw [nn_some, mb_mr]
  refine tot_bind (by rw [ok_gr a1, a3]) ?_
  rw [nn_some, mb_mr]
  refine tot_bind (by rw [ok_gr M1, M3]) ?_
  rw [nn_some, mb_mr]
  refine tot_bind d4 ?_
  rw [nn_some, mb_mr]
  refine tot_bind (by rw [ok_lr b1 (i_nn (by omega)) (by rw [i_nat (by omega), b2]; exact hc), i_nat (by omega), b3 c hc]) ?_
  rw [nn_some, mb_mr]
  refine tot_bind (by rw [ok_gr (cs_lB k1), k4]) (tot_bind (by rw [ok_gr M1, M3]) ?_)
  have lop : ∀ a, (if c_op (s_cl S c) = 0 then none else some (T (c_op (s_cl S c)))) = some a → a < xv_SB := by
    intro a e
    by_cases q : c_op (s_cl S c) = 0
    · rw [if_pos q] at e; cases e
    · rw [if_neg q] at e; cases e; exact (cr_hx o w hc q).2.1.1.2.1
  refine tot_bind (cqA lop (fun a e => by cases e; exact ot.1.1.2.1)) ?_
  by_cases hop : c_op (s_cl S c) = t
  · have e0 : ¬ c_op (s_cl S c) = 0 := by omega
    rw [if_neg e0, hop, if_pos rfl, if_neg (fun z => z rfl)]
    obtain ⟨hY, hsg, hlo⟩ := hy hop
    unfold b77_25
    rw [nn_some, mb_mr]
    refine tot_bind (by rw [ok_gi M1, M2]) ?_
    by_cases k3' : k = 3
    · rw [if_neg (fun z => z k3'), if_pos k3']
      unfold b77_33
      rw [nn_some, mb_mr]
      refine tot_bind (ok_pr (cs_lB k1)) ?_
      obtain ⟨E1', r1⟩ := cr_close hc o w
      have E1 := X111_K E1'
      have cmK := (sfK (h := h) hc).1
      generalize Ufr h 111 (23 + 6 * c) none = h1 at *
      have oM1 := okM_c E1 cmK oM
      have w1 : opOK (s_cl_ S (fset (s_cl S) c (c_op_ (s_cl S c) 0))) := opOK_cl0 w (c_op_op ..)
      rw [nn_some, mb_mr]
      refine tot_bind (by rw [ok_gr oM1.1, oM1.2.2.1]) (tot_bind (by rw [ok_gi oM1.1, oM1.2.2.2.1]) ?_)
      rw [nn_some, mb_mr]
      refine tot_bind (ok_vc r1.1.1.1) (tot_mb (c78_tot (lo := m) (v := 5) hF (Or.inr ⟨hm, rfl⟩) t1 (by rw [s_bg_cl]; exact t2) r1 w1 (hb_ext (K := 0) E1 (hb_le g (by decide)))) (fun _ h2 q2 => ?_))
      obtain ⟨E2, r2⟩ := q2
      obtain ⟨ek2, ak2, K1, K2, K3, K4, K5⟩ := r2.2.2.1 c hc
      rw [s_cl_ms, s_cl_cl, fset_eq, if_pos rfl] at K1
      refine tot_bind (ok_vc (cs_lB K1)) ?_
      have g2 : hb 280 h2 := hb_gw (K := 6) (gw_le (gw_trans (gw_K hc E1) (gw_Q E2)) (by decide)) (hb_le g (by decide))
      refine tot_mb (c80_rdy (isB_c hc) hF (z := c_op_ (s_cl S c) 0) hY (hb_le g2 (by decide)) K1) (fun _ h3 q3 => ?_)
      have wm2 : msOK (s_ms_ (s_cl_ S (fset (s_cl S) c (c_op_ (s_cl S c) 0))) (if sev (s_ti S t) then snd3 (fun p => tp (s_ti S t) p && p != m) 5 t (s_ms S) else s_ms S)) := msOK_v (S := s_cl_ S (fset (s_cl S) c (c_op_ (s_cl S c) 0))) t1 t2 wm
      refine tot_mono (c77_end hF hc r2 (opOK_ms w1) wm2 ?_ ?_ hbg (hb_le g2 (by decide)) q3.1 q3.2) (fun _ h4 q4 => ?_)
      · rw [s_cl_ms, s_cl_cl, fset_eq, if_pos rfl, c_op_op]
      · rw [Dwrong_op, c_op_op]
      · obtain ⟨T', r4, G4⟩ := q4
        refine ⟨T', ?_, gw_le (gw_trans (gw_trans (gw_K hc E1) (gw_Q E2)) G4) (by decide)⟩
        rw [Zbegin_over] at r4
        exact r4
    · rw [if_pos k3', if_neg k3']
      unfold b77_58
      rw [nn_some, mb_mr]
      refine tot_bind (by rw [ok_gr M1, M3]) ?_
      rw [nn_some, mb_mr]
      refine tot_bind d3 (tot_bind (by rw [ok_gi M1, M4]) ?_)
      rw [nn_some, mb_mr]
      have l3 := ot.1.2.2.2.1
      have hl3 := ot.1.2.2.2.2
      refine tot_bind (ok_sz l3 (i_nn (by omega)) (by rw [i_nat (by omega), hl3]; exact hm) (Or.inr rfl)) ?_
      rw [i_nat (by omega)]
      obtain ⟨E1, r1⟩ := cr_an hc hm o w wc hop t1 t2 (by omega)
      have cm1 : calm h Xf0 (fun a => a = T t + 3) := ⟨fun _ _ _ _ q => q, fun a i ht q => by rw [q, ot.1.2.2.2.1.2.2] at ht; cases ht⟩
      have G1 : gw 0 h (Uei h (T t + 3) m 1) := ext_mono E1 (Nat.le_refl 0) (fun _ _ q => q.elim) (fun a q => by omega)
      generalize Uei h (T t + 3) m 1 = h1 at *
      have oM1 := okM_c E1 cm1 oM
      obtain ⟨_, ot1⟩ := cr_tx r1 t1 (by rw [s_bg_cl]; exact t2)
      rw [s_tc_cl, s_ti_cl] at ot1
      obtain ⟨ek1, ak1, J1, J2, J3, J4, J5⟩ := r1.2.2.1 c hc
      rw [s_cl_cl, fset_eq, if_pos rfl] at J1 J2 J4 J5
      rw [c_op_an, c_an_an, hop] at J5
      have oa1 := J5 (by omega)
      refine tot_bind (by rw [ok_gr oM1.1, oM1.2.2.1]) ?_
      rw [nn_some, mb_mr]
      refine tot_bind (okTx_d ot1).1 (tot_bind (c82_eq ot1 oa1 hF) ?_)
      rw [c_an_an]
      by_cases hall : ((!(tp (s_ti S t) 0) || fset (c_an (s_cl S c)) m true 0) && (!(tp (s_ti S t) 1) || fset (c_an (s_cl S c)) m true 1) && (!(tp (s_ti S t) 2) || fset (c_an (s_cl S c)) m true 2)) = true
      · rw [hall, if_pos (by decide), if_pos rfl]
        unfold b77_82
        rw [nn_some, mb_mr]
        have w1 : opOK (s_cl_ S (fset (s_cl S) c (c_an_ (s_cl S c) (fset (c_an (s_cl S c)) m true)))) := by
          intro d hd
          rw [s_cl_cl, s_bg_cl, fset_eq]
          split
          · rw [c_op_an, hop]; exact t2
          · exact w d hd
        refine tot_bind (ok_pr (cs_lB J1)) ?_
        obtain ⟨E2', r2⟩ := cr_close hc r1 w1
        have E2 := X111_K E2'
        have cmK := (sfK (h := h1) hc).1
        generalize Ufr h1 111 (23 + 6 * c) none = h2 at *
        have oM2 := okM_c E2 cmK oM1
        have e2 : s_cl_ (s_cl_ S (fset (s_cl S) c (c_an_ (s_cl S c) (fset (c_an (s_cl S c)) m true)))) (fset (s_cl (s_cl_ S (fset (s_cl S) c (c_an_ (s_cl S c) (fset (c_an (s_cl S c)) m true))))) c (c_op_ (s_cl (s_cl_ S (fset (s_cl S) c (c_an_ (s_cl S c) (fset (c_an (s_cl S c)) m true)))) c) 0)) = s_cl_ S (fset (s_cl S) c (c_op_ (c_an_ (s_cl S c) (fset (c_an (s_cl S c)) m true)) 0)) := by
          rw [s_cl_cl, fset_fset, fset_eq, if_pos rfl]; rfl
        rw [e2] at r2
        have w2 : opOK (s_cl_ S (fset (s_cl S) c (c_op_ (c_an_ (s_cl S c) (fset (c_an (s_cl S c)) m true)) 0))) := opOK_cl0 w (c_op_op ..)
        rw [nn_some, mb_mr]
        refine tot_bind (by rw [ok_gr oM2.1, oM2.2.2.1]) ?_
        rw [nn_some, mb_mr]
        have G2 : gw 0 h h2 := gw_trans (k1 := 0) (k2 := 0) G1 (gw_K hc E2)
        refine tot_bind (ok_vc r2.1.1.1) (tot_mb (c78_tot (lo := 3) (v := 4) hF (Or.inl ⟨rfl, rfl⟩) t1 (by rw [s_bg_cl]; exact t2) r2 w2 (hb_gw (K := 0) G2 (hb_le g (by decide)))) (fun _ h3 q3 => ?_))
        obtain ⟨E3, r3⟩ := q3
        have oM3 := okM_c E3 calmQ oM2
        obtain ⟨ek2, ak2, K1, K2, K3, K4, K5⟩ := r3.2.2.1 c hc
        rw [s_cl_ms, s_cl_cl, fset_eq, if_pos rfl] at K1
        have l803 : lv h3 x 8 := oM3.1
        refine tot_bind (ok_gr l803) (tot_bind (ok_vc (cs_lB K1)) ?_)
        have g3 : hb 280 h3 := hb_gw (K := 6) (gw_le (gw_trans G2 (gw_Q E3)) (by decide)) (hb_le g (by decide))
        -- what comes afterwards
        have sgz : c_sg (c_op_ (c_an_ (s_cl S c) (fset (c_an (s_cl S c)) m true)) 0) = c_sg (s_cl S c) := by rw [c_sg_op, c_sg_an]
        have haft : cs h3 (23 + 6 * c) c (c_op_ (c_an_ (s_cl S c) (fset (c_an (s_cl S c)) m true)) 0) (ek2, some (xv_SB + 11), some (xv_SB + 11 + (c_sg (c_op_ (c_an_ (s_cl S c) (fset (c_an (s_cl S c)) m true)) 0)).toNatClampNeg), none) := by
          have hak : Hfr h3 110 (23 + 6 * c) = ak := by
            have q1 : Hfr h 110 (23 + 6 * c) = ak := by have := k1.2; unfold tr at this; injection this with _ this; injection this with _ this; injection this
            have l0 := (cs_lB k1).1
            have E1h := (E1.2.2.1 110 (23 + 6 * c) l0 (fun q => q)).1
            have l1 := (cs_lB J1).1
            have E2h : Hfr h2 110 (23 + 6 * c) = Hfr h1 110 (23 + 6 * c) := (E2'.2.2.1 110 (23 + 6 * c) l1 (fun q => by unfold X111 at q; omega)).1
            have l2 : 23 + 6 * c < Hn h2 := Nat.lt_of_lt_of_le l1 E2.1.1
            have E3h := (E3.2.2.1 110 (23 + 6 * c) l2 (fun q => by have := q.1; omega)).1
            rw [E3h, E2h, E1h]; exact q1
          have q2 : ak2 = ak := by have := K1.2; unfold tr at this; injection this with _ this; injection this with _ this; injection this with this _; rw [← this]; exact hak
          rw [sgz, ← k2 e0, ← q2]; exact K1
        refine tot_mb (c83_rdy (isB_c hc) hF (z := c_op_ (c_an_ (s_cl S c) (fset (c_an (s_cl S c)) m true)) 0) (so := so) hY (fun q => (hlo q).1) hsg hso (fun q => (hlo q).2) (hb_le g3 (by decide)) haft oM3.2.2.2.2) (fun _ h4 q4 => ?_)
        have wm3 : msOK (s_ms_ (s_cl_ S (fset (s_cl S) c (c_op_ (c_an_ (s_cl S c) (fset (c_an (s_cl S c)) m true)) 0))) (if sev (s_ti S t) then snd3 (fun p => tp (s_ti S t) p && p != 3) 4 t (s_ms S) else s_ms S)) := msOK_v (S := s_cl_ S (fset (s_cl S) c (c_op_ (c_an_ (s_cl S c) (fset (c_an (s_cl S c)) m true)) 0))) t1 t2 wm
        refine tot_mono (c77_end hF hc r3 (opOK_ms w2) wm3 ?_ ?_ hbg (hb_le g3 (by decide)) q4.1 q4.2) (fun _ h5 q5 => ?_)
        · rw [s_cl_ms, s_cl_cl, fset_eq, if_pos rfl, c_op_op]
        · rw [Dgo_op, c_op_op]
        · obtain ⟨T', r5, G5⟩ := q5
          refine ⟨T', ?_, gw_le (gw_trans (gw_trans G2 (gw_Q E3)) G5) (by decide)⟩
          have e3 : s_ti (s_cl_ S (fset (s_cl S) c (c_op_ (c_an_ (s_cl S c) (fset (c_an (s_cl S c)) m true)) 0))) = s_ti S := (rfl)
          have e4 : s_ms (s_cl_ S (fset (s_cl S) c (c_op_ (c_an_ (s_cl S c) (fset (c_an (s_cl S c)) m true)) 0))) = s_ms S := (rfl)
          rw [Zbegin_over, e3, e4, snd3_all] at r5
          exact r5
      · have hf : ((!(tp (s_ti S t) 0) || fset (c_an (s_cl S c)) m true 0) && (!(tp (s_ti S t) 1) || fset (c_an (s_cl S c)) m true 1) && (!(tp (s_ti S t) 2) || fset (c_an (s_cl S c)) m true 2)) = false := by simpa using hall
        rw [hf, if_neg (by decide), if_neg (by decide)]
        exact tot_mr ⟨T, r1, gw_le G1 (by decide)⟩
  · have ne : ¬ (if c_op (s_cl S c) = 0 then none else some (T (c_op (s_cl S c)))) = some (T t) := by
      by_cases q : c_op (s_cl S c) = 0
      · rw [if_pos q]; intro z; cases z
      · rw [if_neg q]; intro z; injection z with z; exact hop (T_inj o (by omega) (w c hc) t1 t2 (by omega) z)
    rw [if_neg ne, if_pos hop]
    exact tot_mr ⟨T, o, gw_le gw_refl (by decide)⟩
end HEAR
