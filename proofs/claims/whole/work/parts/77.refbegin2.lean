/-! The reference: addItem, ask, begin. -/
def agR (h h1 : xv_H) : Prop := ag (fun _ _ => False) h h1
theorem i8_k : ∀ a, a < 24 → (Int32.ofNat a).toInt8.toInt32 = Int32.ofNat a := by decide
section RBEG2
variable {h h1 h2 : xv_H} {n c d L L2 t m p i F f : Nat} {S : zS} {P : List zI} {z z2 : zC} {x : Int32} {it : zI} {K : Nat → Nat → Prop}
theorem ag_R (e : ag K h h1) : agR h h1 := ag_mono e (fun _ _ q => q.elim)
theorem agR_trans (e1 : agR h h1) (e2 : agR h1 h2) : agR h h2 := ag_trans e1 e2
theorem isK8 {k : Int32} (hk : isK k) : k.toInt8.toInt32 = k := by rcases hk with rfl | rfl | rfl | rfl <;> decide
theorem getDI_lt {its : List zI} {i : zI} {j : Nat} (h : j < its.length) : (its ++ [i]).getD j zi0 = its.getD j zi0 := by
  rw [List.getD_eq_getElem?_getD, List.getD_eq_getElem?_getD, List.getElem?_append_left h]
theorem getDI_eq {its : List zI} {i : zI} : (its ++ [i]).getD its.length zi0 = i := by
  rw [List.getD_eq_getElem?_getD, List.getElem?_append_right (Nat.le_refl _)]; simp
def KI (q a i : Nat) : Prop := (a = 37 ∧ i = 909) ∨ (46 ≤ a ∧ a < 50 ∧ i = q) ∨ (a = 50 ∧ 3 * q ≤ i ∧ i < 3 * q + 3)
/-- addItem -/
theorem r156_tot {nd : Int64} {ver va vb vd : Int32} (o : RX h S n P c L) (hn : n + P.length < 1600) (hk : isK it.1) (ha : it.2.1 < 24) (hv : it.1 = 2 ∨ it.1 = 3 → ver = it.2.2.1) (hd : it.1 = 3 ∨ it.1 = 4 → decN nd va vb vd it.2.2.2) : tot (m156 F 37 it.1 (Int32.ofNat it.2.1) ver nd va vb vd) h (fun _ h' => agR h h' ∧ RX h' S n (P ++ [it]) c L) := by
  have rf := o.1
  obtain ⟨q1, q2, q3, q4, q5, q6, q7, q8, q9⟩ := o
  obtain ⟨p1, p2⟩ := q5
  generalize hq : n + P.length = q at *
  unfold m156 b156_0
  rw [nn_some, mb_mr]
  refine tot_bind (g910 rf) (tot_bind (g909 rf) ?_)
  rw [p1, nn_some, mb_mr, isK8 hk, i8_k _ ha]
  refine tot_bind (s46 rf hn (isK8 hk)) ?_
  have a1 : ag (fun a i => ¬ KI q a i) h (Uei h 46 q it.1) := ag_ei (by decide) (fun r => r (by unfold KI; omega))
  have f1 : Hfi (Uei h 46 q it.1) 909 37 = Int32.ofNat q := by rw [Hfi_Uei]; exact p1
  have w1 : Hei (Uei h 46 q it.1) 46 q = it.1 := by rw [Hei_Uei, if_pos ⟨rfl, rfl⟩]
  generalize Uei h 46 q it.1 = h1 at *
  have rf1 := ag_rF a1 rf
  refine tot_bind (g911 rf1) (tot_bind (g909 rf1) ?_)
  rw [f1, nn_some, mb_mr]
  refine tot_bind (s47 rf1 hn (i8_k _ ha)) ?_
  have a2 : ag (fun a i => ¬ KI q a i) h (Uei h1 47 q (Int32.ofNat it.2.1)) := ag_trans a1 (ag_ei (by decide) (fun r => r (by unfold KI; omega)))
  have f2 : Hfi (Uei h1 47 q (Int32.ofNat it.2.1)) 909 37 = Int32.ofNat q := by rw [Hfi_Uei]; exact f1
  have w2 : Hei (Uei h1 47 q (Int32.ofNat it.2.1)) 46 q = it.1 ∧ Hei (Uei h1 47 q (Int32.ofNat it.2.1)) 47 q = Int32.ofNat it.2.1 := ⟨by rw [Hei_Uei, if_neg (by omega)]; exact w1, by rw [Hei_Uei, if_pos ⟨rfl, rfl⟩]⟩
  generalize Uei h1 47 q (Int32.ofNat it.2.1) = h2 at *
  have rf2 := ag_rF a2 rf
  refine tot_bind (g912 rf2) (tot_bind (g909 rf2) ?_)
  rw [f2, nn_some, mb_mr]
  refine tot_bind (s48 rf2 hn) ?_
  have a3 : ag (fun a i => ¬ KI q a i) h (Uei h2 48 q ver) := ag_trans a2 (ag_ei (by decide) (fun r => r (by unfold KI; omega)))
  have f3 : Hfi (Uei h2 48 q ver) 909 37 = Int32.ofNat q := by rw [Hfi_Uei]; exact f2
  have w3 : Hei (Uei h2 48 q ver) 46 q = it.1 ∧ Hei (Uei h2 48 q ver) 47 q = Int32.ofNat it.2.1 ∧ Hei (Uei h2 48 q ver) 48 q = ver := ⟨by rw [Hei_Uei, if_neg (by omega)]; exact w2.1, by rw [Hei_Uei, if_neg (by omega)]; exact w2.2, by rw [Hei_Uei, if_pos ⟨rfl, rfl⟩]⟩
  generalize Uei h2 48 q ver = h3 at *
  have rf3 := ag_rF a3 rf
  refine tot_bind (g913 rf3) (tot_bind (g909 rf3) ?_)
  rw [f3, nn_some, mb_mr]
  refine tot_bind (s49 rf3 hn) ?_
  have a4 : ag (fun a i => ¬ KI q a i) h (Uel h3 49 q nd) := ag_trans a3 (ag_el (by decide) (fun r => r (by unfold KI; omega)))
  have f4 : Hfi (Uel h3 49 q nd) 909 37 = Int32.ofNat q := by rw [Hfi_Uel]; exact f3
  have w4 : Hei (Uel h3 49 q nd) 46 q = it.1 ∧ Hei (Uel h3 49 q nd) 47 q = Int32.ofNat it.2.1 ∧ Hei (Uel h3 49 q nd) 48 q = ver ∧ Hel (Uel h3 49 q nd) 49 q = nd := ⟨by rw [Hei_Uel]; exact w3.1, by rw [Hei_Uel]; exact w3.2.1, by rw [Hei_Uel]; exact w3.2.2, by rw [Hel_Uel, if_pos ⟨rfl, rfl⟩]⟩
  generalize Uel h3 49 q nd = h4 at *
  have rf4 := ag_rF a4 rf
  refine tot_bind (g914 rf4) (tot_bind (g909 rf4) ?_)
  rw [f4, nn_some, mb_mr, ix30]
  refine tot_bind (s50 rf4 (by omega)) ?_
  have a5 : ag (fun a i => ¬ KI q a i) h (Uei h4 50 (3 * q) va) := ag_trans a4 (ag_ei (by decide) (fun r => r (by unfold KI; omega)))
  have f5 : Hfi (Uei h4 50 (3 * q) va) 909 37 = Int32.ofNat q := by rw [Hfi_Uei]; exact f4
  have w5 : (Hei (Uei h4 50 (3 * q) va) 46 q = it.1 ∧ Hei (Uei h4 50 (3 * q) va) 47 q = Int32.ofNat it.2.1 ∧ Hei (Uei h4 50 (3 * q) va) 48 q = ver ∧ Hel (Uei h4 50 (3 * q) va) 49 q = nd) ∧ Hei (Uei h4 50 (3 * q) va) 50 (3 * q) = va := ⟨⟨by rw [Hei_Uei, if_neg (by omega)]; exact w4.1, by rw [Hei_Uei, if_neg (by omega)]; exact w4.2.1, by rw [Hei_Uei, if_neg (by omega)]; exact w4.2.2.1, by rw [Hel_Uei]; exact w4.2.2.2⟩, by rw [Hei_Uei, if_pos ⟨rfl, rfl⟩]⟩
  generalize Uei h4 50 (3 * q) va = h5 at *
  have rf5 := ag_rF a5 rf
  refine tot_bind (g914 rf5) (tot_bind (g909 rf5) ?_)
  rw [f5, nn_some, mb_mr, ix30, i_add1]
  refine tot_bind (s50 rf5 (by omega)) ?_
  have a6 : ag (fun a i => ¬ KI q a i) h (Uei h5 50 (3 * q + 1) vb) := ag_trans a5 (ag_ei (by decide) (fun r => r (by unfold KI; omega)))
  have f6 : Hfi (Uei h5 50 (3 * q + 1) vb) 909 37 = Int32.ofNat q := by rw [Hfi_Uei]; exact f5
  have w6 : (Hei (Uei h5 50 (3 * q + 1) vb) 46 q = it.1 ∧ Hei (Uei h5 50 (3 * q + 1) vb) 47 q = Int32.ofNat it.2.1 ∧ Hei (Uei h5 50 (3 * q + 1) vb) 48 q = ver ∧ Hel (Uei h5 50 (3 * q + 1) vb) 49 q = nd) ∧ Hei (Uei h5 50 (3 * q + 1) vb) 50 (3 * q) = va ∧ Hei (Uei h5 50 (3 * q + 1) vb) 50 (3 * q + 1) = vb := ⟨⟨by rw [Hei_Uei, if_neg (by omega)]; exact w5.1.1, by rw [Hei_Uei, if_neg (by omega)]; exact w5.1.2.1, by rw [Hei_Uei, if_neg (by omega)]; exact w5.1.2.2.1, by rw [Hel_Uei]; exact w5.1.2.2.2⟩, by rw [Hei_Uei, if_neg (by omega)]; exact w5.2, by rw [Hei_Uei, if_pos ⟨rfl, rfl⟩]⟩
  generalize Uei h5 50 (3 * q + 1) vb = h6 at *
  have rf6 := ag_rF a6 rf
  refine tot_bind (g914 rf6) (tot_bind (g909 rf6) ?_)
  rw [f6, nn_some, mb_mr, show (2 : Int32) = Int32.ofNat 2 from rfl, ix3]
  refine tot_bind (s50 rf6 (by omega)) ?_
  have a7 : ag (fun a i => ¬ KI q a i) h (Uei h6 50 (3 * q + 2) vd) := ag_trans a6 (ag_ei (by decide) (fun r => r (by unfold KI; omega)))
  have f7 : Hfi (Uei h6 50 (3 * q + 2) vd) 909 37 = Int32.ofNat q := by rw [Hfi_Uei]; exact f6
  have w7 : (Hei (Uei h6 50 (3 * q + 2) vd) 46 q = it.1 ∧ Hei (Uei h6 50 (3 * q + 2) vd) 47 q = Int32.ofNat it.2.1 ∧ Hei (Uei h6 50 (3 * q + 2) vd) 48 q = ver ∧ Hel (Uei h6 50 (3 * q + 2) vd) 49 q = nd) ∧ Hei (Uei h6 50 (3 * q + 2) vd) 50 (3 * q) = va ∧ Hei (Uei h6 50 (3 * q + 2) vd) 50 (3 * q + 1) = vb ∧ Hei (Uei h6 50 (3 * q + 2) vd) 50 (3 * q + 2) = vd := ⟨⟨by rw [Hei_Uei, if_neg (by omega)]; exact w6.1.1, by rw [Hei_Uei, if_neg (by omega)]; exact w6.1.2.1, by rw [Hei_Uei, if_neg (by omega)]; exact w6.1.2.2.1, by rw [Hel_Uei]; exact w6.1.2.2.2⟩, by rw [Hei_Uei, if_neg (by omega)]; exact w6.2.1, by rw [Hei_Uei, if_neg (by omega)]; exact w6.2.2, by rw [Hei_Uei, if_pos ⟨rfl, rfl⟩]⟩
  generalize Uei h6 50 (3 * q + 2) vd = h7 at *
  have rf7 := ag_rF a7 rf
  refine tot_bind (g909 rf7) (tot_bind (p909 rf7) (tot_mr ?_))
  rw [f7, i_add1]
  have a8 : ag (fun a i => ¬ KI q a i) h (Ufi h7 909 37 (Int32.ofNat (q + 1))) := ag_trans a7 (ag_fi (by decide) (fun r => r (by unfold KI; omega)))
  have f8 : Hfi (Ufi h7 909 37 (Int32.ofNat (q + 1))) 909 37 = Int32.ofNat (q + 1) := by rw [Hfi_Ufi, if_pos ⟨rfl, rfl⟩]
  have ok8 : okIt (Ufi h7 909 37 (Int32.ofNat (q + 1))) q it := by
    unfold okIt
    rw [Hei_Ufi, Hel_Ufi, w7.1.1, w7.1.2.1, w7.1.2.2.1, w7.1.2.2.2, w7.2.1, w7.2.2.1, w7.2.2.2]
    exact ⟨rfl, rfl, hv, hd⟩
  generalize Ufi h7 909 37 (Int32.ofNat (q + 1)) = h8 at *
  have hlen : (P ++ [it]).length = P.length + 1 := by rw [List.length_append]; rfl
  refine ⟨ag_R a8, ag_rF a8 rf, ?_, ?_, ?_, ⟨?_, ?_⟩, ?_, ?_, ?_, ?_⟩
  · exact rG_c a8 (fun a i r => by unfold KG at r; unfold KI; omega) q2
  · exact rN_c a8 (fun a i r => by unfold KN at r; unfold KI; omega) q3
  · exact rT_c a8 (fun a i r => by unfold KT at r; unfold KI; omega) q4
  · rw [hlen, f8]; congr 1; omega
  · intro j hj
    rw [hlen] at hj
    by_cases e : j = P.length
    · rw [e, getDI_eq, hq]; exact ok8
    · rw [getDI_lt (by omega)]
      exact okIt_c a8 (fun a a1 a2 => by unfold KI; omega) ⟨by unfold KI; omega, by unfold KI; omega, by unfold KI; omega⟩ (p2 j (by omega))
  · exact rR_c a8 (fun a i r => by unfold KR at r; unfold KI; omega) q6
  · exact rQ_c a8 (fun a i r => by unfold KQ at r; unfold KI; omega) q7
  · exact rC_c a8 (fun a i r => by unfold KC at r; unfold KI; omega) q8
  · intro d hd hn
    exact rC_c a8 (fun a i r => by unfold KC at r; unfold KI; omega) (q9 d hd hn)
theorem amask_bit : ∀ (a b d : Bool), (((((if a then (1 : Int32) else 0) + (if b then 2 else 0) + (if d then 4 else 0)) >>> ((0 : Int32) &&& 31)) &&& 1) = 0 ↔ a = false) ∧ (((((if a then (1 : Int32) else 0) + (if b then 2 else 0) + (if d then 4 else 0)) >>> ((1 : Int32) &&& 31)) &&& 1) = 0 ↔ b = false) ∧ (((((if a then (1 : Int32) else 0) + (if b then 2 else 0) + (if d then 4 else 0)) >>> ((2 : Int32) &&& 31)) &&& 1) = 0 ↔ d = false) := by decide
theorem amask_m {an : Nat → Bool} (hm : m < 3) : ((amask an >>> (Int32.ofNat m &&& 31)) &&& 1) = 0 ↔ an m = false := by
  have := amask_bit (an 0) (an 1) (an 2)
  have hm' : m = 0 ∨ m = 1 ∨ m = 2 := by omega
  rcases hm' with rfl | rfl | rfl
  · exact this.1
  · exact this.2.1
  · exact this.2.2
/-- ask, one step -/
theorem r161_step {Q : Int32 → xv_H → Prop} {q j : Nat} {k : Int32} (hF : 1000 ≤ F) (hc : c < 2) (hj : j < 3) (hop : c_op (s_cl S c) = t) (t1 : 1 ≤ t) (t2 : t ≤ s_bg S) (hbg : s_bg S ≤ 512) (wf : wfT (s_ti S t)) (h6 : (s_ti S t).length ≤ 6) (hn : n ≤ 1600) (o : RX h S n P c L) (kk : ∀ h', agR h h' → RX h' (s_ms_ S (if tp (s_ti S t) j && !(c_an (s_cl S c) j) then snd_ (s_ms S) (1, t, j, none) else s_ms S)) n P c L → tot (b161_4 F q (some 37) (Int32.ofNat c) (if tp (s_ti S t) j && !(c_an (s_cl S c) j) then k + 1 else k) (Int32.ofNat (j + 1))) h' Q) : tot (b161_4 F (q + 1) (some 37) (Int32.ofNat c) k (Int32.ofNat j)) h Q := by
  have rf := o.1
  have v := rF_vc rf
  have e69 : Hei h 69 c = Int32.ofNat t := rv_at o.2.2.2.2.2.2.2.1 (by unfold rv; simp [hop])
  have e70 : Hei h 70 c = amask (c_an (s_cl S c)) := rv_at o.2.2.2.2.2.2.2.1 (by unfold rv; simp [hop, show ¬ t = 0 by omega])
  unfold b161_4
  rw [show (3 : Int32) = Int32.ofNat 3 from rfl, if_neg (by rw [i_le (by decide) (by omega)]; omega)]
  unfold b161_9
  rw [nn_some, mb_mr]
  refine tot_bind (g934 rf) ?_
  rw [nn_some, mb_mr]
  refine tot_bind (l69 rf hc) (tot_bind v ?_)
  rw [e69]
  refine tot_bind (r136_eq hF rf hj (by omega) wf h6 hn (o.2.2.2.1.2 t t1 t2)) ?_
  cases hp : tp (s_ti S t) j
  · rw [hp] at kk
    rw [if_pos (by decide)]
    unfold b161_52
    rw [i_add1]
    exact kk h (ag_R (K := fun _ _ => False) ag_refl) o
  · rw [hp] at kk
    rw [if_neg (by decide)]
    unfold b161_23
    rw [nn_some, mb_mr]
    refine tot_bind (g935 rf) ?_
    rw [nn_some, mb_mr]
    refine tot_bind (l70 rf hc) ?_
    rw [e70]
    cases ha : c_an (s_cl S c) j
    · rw [ha] at kk
      rw [if_neg (fun z => z ((amask_m hj).mpr ha))]
      unfold b161_36 b161_52
      rw [nn_some, mb_mr]
      refine tot_bind (g934 rf) ?_
      rw [nn_some, mb_mr]
      refine tot_bind (l69 rf hc) (tot_bind v ?_)
      rw [e69]
      refine tot_mb (r132_tot rf o.2.2.2.2.2.2.1) (fun _ h1 q1 => ?_)
      rw [i_add1]
      exact kk h1 (ag_R q1.2.1) (RX_q q1.2.1 o q1.2.2)
    · rw [ha] at kk
      rw [if_pos (fun z => by have := (amask_m hj).mp z; rw [ha] at this; cases this)]
      unfold b161_52
      rw [i_add1]
      exact kk h (ag_R (K := fun _ _ => False) ag_refl) o
theorem r161_tot (hF : 1000 ≤ F) (hc : c < 2) (hop : c_op (s_cl S c) = t) (t1 : 1 ≤ t) (t2 : t ≤ s_bg S) (hbg : s_bg S ≤ 512) (wf : wfT (s_ti S t)) (h6 : (s_ti S t).length ≤ 6) (hn : n ≤ 1600) (o : RX h S n P c L) : tot (m161 F 37 (Int32.ofNat c)) h (fun r h' => r = cnt3 (fun p => tp (s_ti S t) p && !(c_an (s_cl S c) p)) ∧ agR h h' ∧ RX h' (s_ms_ S (snd3 (fun p => tp (s_ti S t) p && !(c_an (s_cl S c) p)) 1 t (s_ms S))) n P c L) := by
  obtain ⟨F', rfl⟩ : ∃ k, F = k + 4 := ⟨F - 4, by omega⟩
  unfold m161 b161_0
  refine r161_step (j := 0) hF hc (by decide) hop t1 t2 hbg wf h6 hn o (fun h1 E1 o1 => ?_)
  refine r161_step (j := 1) hF hc (by decide) (by rw [s_cl_ms]; exact hop) t1 (by rw [s_bg_ms]; exact t2) (by rw [s_bg_ms]; exact hbg) (by rw [s_ti_ms]; exact wf) (by rw [s_ti_ms]; exact h6) hn o1 (fun h2 E2 o2 => ?_)
  refine r161_step (j := 2) hF hc (by decide) (by rw [s_cl_ms, s_cl_ms]; exact hop) t1 (by rw [s_bg_ms, s_bg_ms]; exact t2) (by rw [s_bg_ms, s_bg_ms]; exact hbg) (by rw [s_ti_ms, s_ti_ms]; exact wf) (by rw [s_ti_ms, s_ti_ms]; exact h6) hn o2 (fun h3 E3 o3 => ?_)
  unfold b161_4
  rw [if_pos (by decide)]
  refine tot_mr ⟨?_, agR_trans (agR_trans E1 E2) E3, ?_⟩
  · rw [s_ti_ms, s_ti_ms, s_cl_ms, s_cl_ms]
    exact cnt3_eq (fun p => tp (s_ti S t) p && !(c_an (s_cl S c) p))
  · rw [snd3_eq]
    rw [s_ms_ms2, s_ms_ms2, s_ti_ms, s_ti_ms, s_cl_ms, s_cl_ms, s_ms_ms, s_ms_ms] at o3
    exact o3
end RBEG2
