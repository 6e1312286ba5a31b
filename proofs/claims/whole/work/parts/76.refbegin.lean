/-! The reference: send, takesPart, addItem, begin. -/
section RBEG
variable {h h1 h2 : xv_H} {n c d L L2 t m p i F f : Nat} {S : zS} {P : List zI} {z z2 : zC} {x : Int32} {it : zI}
theorem RX_F (o : RX h S n P c L) : rF h := o.1
/-- messages changed -/
theorem RX_q {ms : List zM} (e : ag (fun a i => ¬ KQ a i) h h1) (o : RX h S n P c L) (q : rQ h1 ms) : RX h1 (s_ms_ S ms) n P c L := by
  obtain ⟨q1, q2, q3, q4, q5, q6, q7, q8, q9⟩ := o
  refine ⟨ag_rF e q1, ?_, ?_, ?_, ?_, ?_, q, ?_, ?_⟩
  · rw [s_dn_ms]; exact rG_c e (fun a i q => by unfold KG at q; unfold KQ; omega) q2
  · rw [s_ce_ms]; exact rN_c e (fun a i q => by unfold KN at q; unfold KQ; omega) q3
  · rw [s_bg_ms, s_tc_ms, s_ti_ms]; exact rT_c e (fun a i q => by unfold KT at q; unfold KQ; omega) q4
  · exact rP_c e (fun a i q => by unfold KP at q; unfold KQ; omega) q5
  · rw [s_rm_ms]; exact rR_c e (fun a i q => by unfold KR at q; unfold KQ; omega) q6
  · rw [s_cl_ms]; exact rC_c e (fun a i q => by unfold KC at q; unfold KQ; omega) q8
  · intro d hd hn
    rw [s_cl_ms]
    exact rC_c e (fun a i q => by unfold KC at q; unfold KQ; omega) (q9 d hd hn)
theorem r132_tot {k : Int32} (rf : rF h) {ms : List zM} (o : rQ h ms) : tot (m132 F 37 k (Int32.ofNat t) (Int32.ofNat m)) h (fun r h' => r = (if ms.length < 40 then Int32.ofNat ms.length else -1) ∧ ag (fun a i => ¬ KQ a i) h h' ∧ rQ h' (snd_ ms (k, t, m, none))) := by
  obtain ⟨o1, o2, o3⟩ := id o
  unfold m132 b132_0 snd_
  rw [nn_some, mb_mr]
  refine tot_bind (g915 rf) ?_
  rw [o1, show (40 : Int32) = Int32.ofNat 40 from rfl]
  by_cases q : ms.length < 40
  · rw [if_pos (fun z => by have := (i_eq (by omega) (by decide)).mp z; omega), if_pos q, if_pos q]
    unfold b132_11
    rw [nn_some, mb_mr]
    refine tot_bind (g916 rf) (tot_bind (g915 rf) ?_)
    rw [o1, nn_some, mb_mr]
    refine tot_bind (s51 rf q) ?_
    have a1 : ag (fun a i => ¬ KQ a i) h (Uei h 51 ms.length k) := ag_ei (by decide) (fun q => q (by unfold KQ; omega))
    have f1 : Hfi (Uei h 51 ms.length k) 915 37 = Int32.ofNat ms.length := by rw [Hfi_Uei]; exact o1
    have w1 : Hei (Uei h 51 ms.length k) 51 ms.length = k := by rw [Hei_Uei, if_pos ⟨rfl, rfl⟩]
    have k1 : ∀ A j, ¬ (A = 51 ∧ j = ms.length) → Hei (Uei h 51 ms.length k) A j = Hei h A j := by intro A j q; rw [Hei_Uei, if_neg q]
    have l1 : ∀ A j, Hel (Uei h 51 ms.length k) A j = Hel h A j := by intro A j; rw [Hel_Uei]
    generalize Uei h 51 ms.length k = h1 at *
    have rf1 := ag_rF a1 rf
    refine tot_bind (g917 rf1) (tot_bind (g915 rf1) ?_)
    rw [f1, nn_some, mb_mr]
    refine tot_bind (s52 rf1 q) ?_
    have a2 : ag (fun a i => ¬ KQ a i) h (Uei h1 52 ms.length (Int32.ofNat t)) := ag_trans a1 (ag_ei (by decide) (fun q => q (by unfold KQ; omega)))
    have f2 : Hfi (Uei h1 52 ms.length (Int32.ofNat t)) 915 37 = Int32.ofNat ms.length := by rw [Hfi_Uei]; exact f1
    have w2 : Hei (Uei h1 52 ms.length (Int32.ofNat t)) 52 ms.length = Int32.ofNat t := by rw [Hei_Uei, if_pos ⟨rfl, rfl⟩]
    have v2 : Hei (Uei h1 52 ms.length (Int32.ofNat t)) 51 ms.length = k := by rw [Hei_Uei, if_neg (by omega)]; exact w1
    have k2 : ∀ A j, ¬ ((51 ≤ A ∧ A ≤ 52) ∧ j = ms.length) → Hei (Uei h1 52 ms.length (Int32.ofNat t)) A j = Hei h A j := by intro A j q; rw [Hei_Uei, if_neg (by omega), k1 A j (by omega)]
    have l2 : ∀ A j, Hel (Uei h1 52 ms.length (Int32.ofNat t)) A j = Hel h A j := by intro A j; rw [Hel_Uei]; exact l1 A j
    generalize Uei h1 52 ms.length (Int32.ofNat t) = h2 at *
    have rf2 := ag_rF a2 rf
    refine tot_bind (g918 rf2) (tot_bind (g915 rf2) ?_)
    rw [f2, nn_some, mb_mr]
    refine tot_bind (s53 rf2 q) ?_
    have a3 : ag (fun a i => ¬ KQ a i) h (Uei h2 53 ms.length (Int32.ofNat m)) := ag_trans a2 (ag_ei (by decide) (fun q => q (by unfold KQ; omega)))
    have f3 : Hfi (Uei h2 53 ms.length (Int32.ofNat m)) 915 37 = Int32.ofNat ms.length := by rw [Hfi_Uei]; exact f2
    have w3 : Hei (Uei h2 53 ms.length (Int32.ofNat m)) 53 ms.length = Int32.ofNat m := by rw [Hei_Uei, if_pos ⟨rfl, rfl⟩]
    have v3 : Hei (Uei h2 53 ms.length (Int32.ofNat m)) 51 ms.length = k ∧ Hei (Uei h2 53 ms.length (Int32.ofNat m)) 52 ms.length = Int32.ofNat t := ⟨by rw [Hei_Uei, if_neg (by omega)]; exact v2, by rw [Hei_Uei, if_neg (by omega)]; exact w2⟩
    have k3 : ∀ A j, ¬ ((51 ≤ A ∧ A ≤ 53) ∧ j = ms.length) → Hei (Uei h2 53 ms.length (Int32.ofNat m)) A j = Hei h A j := by intro A j q; rw [Hei_Uei, if_neg (by omega), k2 A j (by omega)]
    have l3 : ∀ A j, Hel (Uei h2 53 ms.length (Int32.ofNat m)) A j = Hel h A j := by intro A j; rw [Hel_Uei]; exact l2 A j
    generalize Uei h2 53 ms.length (Int32.ofNat m) = h3 at *
    have rf3 := ag_rF a3 rf
    refine tot_bind (g919 rf3) (tot_bind (g915 rf3) ?_)
    rw [f3, nn_some, mb_mr]
    refine tot_bind (s54 rf3 q) ?_
    have a4 : ag (fun a i => ¬ KQ a i) h (Uei h3 54 ms.length 0) := ag_trans a3 (ag_ei (by decide) (fun q => q (by unfold KQ; omega)))
    have f4 : Hfi (Uei h3 54 ms.length 0) 915 37 = Int32.ofNat ms.length := by rw [Hfi_Uei]; exact f3
    have v4 : Hei (Uei h3 54 ms.length 0) 51 ms.length = k ∧ Hei (Uei h3 54 ms.length 0) 52 ms.length = Int32.ofNat t ∧ Hei (Uei h3 54 ms.length 0) 53 ms.length = Int32.ofNat m := ⟨by rw [Hei_Uei, if_neg (by omega)]; exact v3.1, by rw [Hei_Uei, if_neg (by omega)]; exact v3.2, by rw [Hei_Uei, if_neg (by omega)]; exact w3⟩
    have k4 : ∀ A j, ¬ ((51 ≤ A ∧ A ≤ 54) ∧ j = ms.length) → Hei (Uei h3 54 ms.length 0) A j = Hei h A j := by intro A j q; rw [Hei_Uei, if_neg (by omega), k3 A j (by omega)]
    have l4 : ∀ A j, Hel (Uei h3 54 ms.length 0) A j = Hel h A j := by intro A j; rw [Hel_Uei]; exact l3 A j
    generalize Uei h3 54 ms.length 0 = h4 at *
    have rf4 := ag_rF a4 rf
    refine tot_bind (g920 rf4) (tot_bind (g915 rf4) ?_)
    rw [f4, nn_some, mb_mr]
    refine tot_bind (s55 rf4 q) ?_
    have a5 : ag (fun a i => ¬ KQ a i) h (Uel h4 55 ms.length 0) := ag_trans a4 (ag_el (by decide) (fun q => q (by unfold KQ; omega)))
    have f5 : Hfi (Uel h4 55 ms.length 0) 915 37 = Int32.ofNat ms.length := by rw [Hfi_Uel]; exact f4
    have v5 : Hei (Uel h4 55 ms.length 0) 51 ms.length = k ∧ Hei (Uel h4 55 ms.length 0) 52 ms.length = Int32.ofNat t ∧ Hei (Uel h4 55 ms.length 0) 53 ms.length = Int32.ofNat m := ⟨by rw [Hei_Uel]; exact v4.1, by rw [Hei_Uel]; exact v4.2.1, by rw [Hei_Uel]; exact v4.2.2⟩
    have k5 : ∀ A j, ¬ ((51 ≤ A ∧ A ≤ 54) ∧ j = ms.length) → Hei (Uel h4 55 ms.length 0) A j = Hei h A j := by intro A j q; rw [Hei_Uel]; exact k4 A j q
    have l5 : ∀ A j, ¬ (A = 55 ∧ j = ms.length) → Hel (Uel h4 55 ms.length 0) A j = Hel h A j := by intro A j q; rw [Hel_Uel, if_neg q]; exact l4 A j
    generalize Uel h4 55 ms.length 0 = h5 at *
    have rf5 := ag_rF a5 rf
    refine tot_bind (g915 rf5) (tot_bind (p915 rf5) ?_)
    rw [f5, i_add1]
    have a6 : ag (fun a i => ¬ KQ a i) h (Ufi h5 915 37 (Int32.ofNat (ms.length + 1))) := ag_trans a5 (ag_fi (by decide) (fun q => q (by unfold KQ; omega)))
    have f6 : Hfi (Ufi h5 915 37 (Int32.ofNat (ms.length + 1))) 915 37 = Int32.ofNat (ms.length + 1) := by rw [Hfi_Ufi, if_pos ⟨rfl, rfl⟩]
    have v6 : Hei (Ufi h5 915 37 (Int32.ofNat (ms.length + 1))) 51 ms.length = k ∧ Hei (Ufi h5 915 37 (Int32.ofNat (ms.length + 1))) 52 ms.length = Int32.ofNat t ∧ Hei (Ufi h5 915 37 (Int32.ofNat (ms.length + 1))) 53 ms.length = Int32.ofNat m := ⟨by rw [Hei_Ufi]; exact v5.1, by rw [Hei_Ufi]; exact v5.2.1, by rw [Hei_Ufi]; exact v5.2.2⟩
    have k6 : ∀ A j, ¬ ((51 ≤ A ∧ A ≤ 54) ∧ j = ms.length) → Hei (Ufi h5 915 37 (Int32.ofNat (ms.length + 1))) A j = Hei h A j := by intro A j q; rw [Hei_Ufi]; exact k5 A j q
    have l6 : ∀ A j, ¬ (A = 55 ∧ j = ms.length) → Hel (Ufi h5 915 37 (Int32.ofNat (ms.length + 1))) A j = Hel h A j := by intro A j q; rw [Hel_Ufi]; exact l5 A j q
    generalize Ufi h5 915 37 (Int32.ofNat (ms.length + 1)) = h6 at *
    have rf6 := ag_rF a6 rf
    refine tot_bind (g915 rf6) (tot_mr ⟨?_, a6, ?_⟩)
    · rw [f6, i_sub1 (by omega) (by omega)]; rfl
    · have hlen : (ms ++ [(k, t, m, (none : Option (Int32 × zN)))]).length = ms.length + 1 := by rw [List.length_append]; rfl
      refine ⟨by rw [hlen]; exact f6, by omega, fun i hi => ?_⟩
      rw [hlen] at hi
      by_cases e : i = ms.length
      · subst e
        rw [getD_app_eq]
        exact ⟨v6.1, v6.2.1, v6.2.2, fun v hv => by cases hv⟩
      · rw [getD_app_lt (by omega)]
        have := o3 i (by omega)
        unfold okMs
        rw [k6 51 i (by omega), k6 52 i (by omega), k6 53 i (by omega), k6 54 i (by omega), l6 55 i (by omega), k6 56 _ (by omega), k6 56 _ (by omega), k6 56 _ (by omega)]
        exact this
  · rw [if_neg (fun z => z (by congr 1; omega)), if_neg q, if_neg q]
    exact tot_mr ⟨rfl, ag_refl, o⟩
/-- takesPart -/
theorem tp_drop {its : List zI} {j : Nat} (hj : j < its.length) : tp (its.drop j) m = ((its.getD j zi0).2.1 / 8 == m || tp (its.drop (j + 1)) m) := by
  rw [drop_cons hj]; rfl
theorem r136_loop (rf : rF h) {its : List zI} {cc f0 : Nat} (hm : m < 3) (ht : t < 513) (wf : wfT its) (e43 : Hei h 43 t = Int32.ofNat f0) (e44 : Hei h 44 t = Int32.ofNat its.length) (hn : f0 + its.length ≤ 1600) (oi : ∀ j, j < its.length → okIt h (f0 + j) (its.getD j zi0)) : ∀ (f j : Nat) (b : Bool), j ≤ its.length → its.length - j < f → b136_10 F f (some 37) (Int32.ofNat t) (Int32.ofNat m) (b2i b) (Int32.ofNat (f0 + j)) h = some (b2i (b || tp (its.drop j) m), h) := by
  intro f
  induction f with
  | zero => intro j b h1 h2; omega
  | succ f ih =>
    intro j b h1 h2
    unfold b136_10
    rw [nn_some, mb_mr, mb_some (g906 rf), nn_some, mb_mr, mb_some (l43 rf (by omega)), mb_some (g907 rf), nn_some, mb_mr, mb_some (l44 rf (by omega)), e43, e44, i_add]
    by_cases q : its.length ≤ j
    · rw [if_pos (by rw [i_le (by omega) (by omega)]; omega), List.drop_of_length_le q]
      unfold b136_58
      rw [mb_some (ok_bz (b2i_01 _))]
      cases b <;> rfl
    · rw [if_neg (by rw [i_le (by omega) (by omega)]; omega), tp_drop (by omega)]
      obtain ⟨hk, ha⟩ := wf j (by omega)
      have nx : ∀ b, b136_10 F f (some 37) (Int32.ofNat t) (Int32.ofNat m) (b2i b) (Int32.ofNat (f0 + j) + 1) h = some (b2i (b || tp (its.drop (j + 1)) m), h) := by
        intro b
        rw [i_add1, show f0 + j + 1 = f0 + (j + 1) by omega]
        exact ih (j + 1) b (by omega) (by omega)
      have n1 := nx true
      have n0 := nx false
      unfold b136_28
      cases b
      · rw [if_neg (fun z => z rfl)]
        unfold b136_32
        rw [nn_some, mb_mr, mb_some (g911 rf), nn_some, mb_mr, mb_some (l47 rf (by omega)), (oi j (by omega)).2.1, mb_some (ok_dz (by decide)), i_div8 _ ha]
        by_cases e : (its.getD j zi0).2.1 / 8 = m
        · have eb : ((its.getD j zi0).2.1 / 8 == m) = true := by simpa using e
          rw [if_neg (fun z => z (by rw [e])), eb]
          unfold b136_46 b136_51
          exact n1
        · have eb : ((its.getD j zi0).2.1 / 8 == m) = false := by simpa using e
          rw [if_pos (fun z => e ((i_eq (by omega) (by omega)).mp z)), eb]
          unfold b136_50 b136_51
          exact n0
      · rw [if_pos (by decide)]
        unfold b136_46 b136_51
        exact n1
theorem r136_eq (hF : 1000 ≤ F) (rf : rF h) {its : List zI} {cc : Nat} (hm : m < 3) (ht : t < 513) (wf : wfT its) (h6 : its.length ≤ 6) (hn : n ≤ 1600) (o : rTx h n t cc its) : m136 F 37 (Int32.ofNat t) (Int32.ofNat m) h = some (b2i (tp its m), h) := by
  obtain ⟨o1, o2, f0, o3, o4, o5⟩ := o
  unfold m136 b136_0
  rw [nn_some, mb_mr, mb_some (g906 rf), nn_some, mb_mr, mb_some (l43 rf (by omega)), o3]
  have := r136_loop (F := F) (m := m) (cc := cc) rf hm ht wf o3 o2 (by omega) o5 F 0 false (by omega) (by omega)
  exact this
/-- parts -/
theorem r135_eq (hF : 1000 ≤ F) (rf : rF h) {its : List zI} {cc : Nat} (ht : t < 513) (wf : wfT its) (h6 : its.length ≤ 6) (hn : n ≤ 1600) (o : rTx h n t cc its) : m135 F 37 (Int32.ofNat t) h = some (cnt3 (tp its), h) := by
  have t0 := r136_eq (F := F) hF rf (m := 0) (by decide) ht wf h6 hn o
  have t1 := r136_eq (F := F) hF rf (m := 1) (by decide) ht wf h6 hn o
  have t2 := r136_eq (F := F) hF rf (m := 2) (by decide) ht wf h6 hn o
  have v := rF_vc rf
  have step2 : ∀ a b : Int32, b135_28 F a b (some 37) (Int32.ofNat t) h = some ((b + a) + (if tp its 2 then 1 else 0), h) := by
    intro a b
    unfold b135_28
    rw [nn_some, mb_mr, mb_some v, mb_some (show m136 F 37 (Int32.ofNat t) 2 h = _ from t2)]
    cases tp its 2 <;> rfl
  have step1 : ∀ a : Int32, b135_14 F a (some 37) (Int32.ofNat t) h = some ((a + (if tp its 1 then 1 else 0)) + (if tp its 2 then 1 else 0), h) := by
    intro a
    unfold b135_14
    rw [nn_some, mb_mr, mb_some v, mb_some (show m136 F 37 (Int32.ofNat t) 1 h = _ from t1)]
    cases tp its 1
    · exact step2 0 a
    · exact step2 1 a
  unfold m135 b135_0
  rw [nn_some, mb_mr, mb_some v, mb_some (show m136 F 37 (Int32.ofNat t) 0 h = _ from t0)]
  unfold cnt3
  cases tp its 0
  · exact step1 0
  · exact step1 1
end RBEG
