/-! Messages under way: get, remove. -/
theorem getD_erase {ms : List zM} {i j : Nat} : (ms.eraseIdx j).getD i zm0 = if i < j then ms.getD i zm0 else ms.getD (i + 1) zm0 := by
  rw [List.getD_eq_getElem?_getD, List.getElem?_eraseIdx]
  split
  · rw [List.getD_eq_getElem?_getD]
  · rw [List.getD_eq_getElem?_getD]
section QU4
variable {h h0 h1 h2 : xv_H} {F f x y c t m n K ed j : Nat} {T : zT} {ms : List zM} {M : zM}
theorem c70_eq {a b : Nat} (hab : a < b) (hb : b < 2147483648) : m70 F (Int32.ofNat a) (Int32.ofNat b) h = some (Int32.ofNat a, h) := by
  unfold m70 b70_0 m71 b71_0
  have e : ¬ Int32.ofNat a < 0 := by rw [show (0 : Int32) = Int32.ofNat 0 from rfl, i_lt (by omega) (by decide)]; omega
  rw [if_neg e]
  unfold b71_4
  rw [if_pos (by rw [i_lt (by omega) hb]; exact hab)]
  rfl
theorem kQ_row (o : kQ h T ms) (hj : j < ms.length) : ∃ ed, kR h T ms ed := by
  obtain ⟨p1, p2, p3, p4⟩ := o
  rcases p4 with ⟨rfl, q⟩ | ⟨ed, q, r⟩
  · cases hj
  · exact ⟨ed, p1, p2, p3, q, r⟩
theorem c69_eq (o : kQ h T ms) (hj : j < ms.length) : ∃ x, m69 F 35 (Int32.ofNat j) h = some (some x, h) ∧ okM h T x (ms.getD j zm0) := by
  obtain ⟨ed, p1, p2, p3, p4, r0, r1, r2, r3, r4, r5⟩ := kQ_row o hj
  obtain ⟨x, x1, x2⟩ := r5 j hj
  refine ⟨x, ?_, x2⟩
  have g1 : gr 1000 35 h = some (some ed, h) := by rw [ok_gr p1, p4]
  have g2 : lr 109 ed (Int32.ofNat j) h = some (some x, h) := by rw [ok_lr r1 (i_nn (by omega)) (by rw [i_nat (by omega)]; omega), i_nat (by omega), x1]
  have e72 : m72 F 35 (Int32.ofNat j) h = some (some x, h) := by
    unfold m72 b72_0
    rw [nn_some, mb_mr, mb_some g1, nn_some, mb_mr, mb_some g2]; rfl
  unfold m69 b69_0
  rw [nn_some, mb_mr, mb_some (by rw [ok_gi p1, p2]), mb_some (c70_eq hj (by omega)), mb_some (ok_vc p1), mb_some e72]; rfl
theorem c76_end {Q : Unit → xv_H → Prop} (hj : n + 1 = ms.length) (h40 : ms.length ≤ 40) (l35 : lv h 35 10) (r0 : 77 ≤ ed) (r1 : lv h ed 109) (q : Hfr h 1000 35 = some ed) (r2 : ms.length ≤ Hl h ed) (r3 : 10 ≤ Hl h ed) (r4 : Hl h ed ≤ 60) {ms2 : List zM} (h2 : ms2.length = n) (r5 : ∀ i, i < n → ∃ x, Her h ed i = some x ∧ okM h T x (ms2.getD i zm0)) (k : ∀ h', ext 0 XfQ (isQ h) h h' → kQ h' T ms2 → Q () h') : tot (b76_34 F (some 35) (some ed) (Int32.ofNat n)) h Q := by
  unfold b76_34
  rw [nn_some, mb_mr]
  refine tot_bind (ok_pi l35) ?_
  have E1 : ext 0 XfQ (isQ h) h (Ufi h 1001 35 (Int32.ofNat n)) := ext_fi ⟨rfl, by decide⟩
  have w1 : Hfi (Ufi h 1001 35 (Int32.ofNat n)) 1001 35 = Int32.ofNat n := by rw [Hfi_Ufi, if_pos ⟨rfl, rfl⟩]
  have w2 : Hfr (Ufi h 1001 35 (Int32.ofNat n)) 1000 35 = some ed := by rw [Hfr_Ufi]; exact q
  have w3 : ∀ i, Her (Ufi h 1001 35 (Int32.ofNat n)) ed i = Her h ed i := by intro i; rw [Her_Ufi]
  generalize Ufi h 1001 35 (Int32.ofNat n) = h1 at *
  have el := (E1.2.1 _ r1.1).2
  rw [nn_some, mb_mr]
  refine tot_bind (ok_sr (lv_ext E1 r1) (i_nn (by omega)) (by rw [i_nat (by omega), el]; omega) (fun b e => by cases e)) (tot_mr ?_)
  rw [i_nat (by omega)]
  have E2 : ext 0 XfQ (isQ h) h (Uer h1 ed n none) := ext_erS E1 (Or.inl ⟨r0, r1.2.2⟩)
  have v1 : Hfi (Uer h1 ed n none) 1001 35 = Int32.ofNat n := by rw [Hfi_Uer]; exact w1
  have v2 : Hfr (Uer h1 ed n none) 1000 35 = some ed := by rw [Hfr_Uer]; exact w2
  have v3 : ∀ i, i < n → Her (Uer h1 ed n none) ed i = Her h ed i := by intro i hi; rw [Her_Uer, if_neg (by omega)]; exact w3 i
  generalize Uer h1 ed n none = h2_ at *
  have el2 := (E2.2.1 _ r1.1).2
  refine k h2_ E2 ⟨lv_ext E2 l35, by rw [h2]; exact v1, by omega, Or.inr ⟨ed, v2, r0, lv_ext E2 r1, by omega, by omega, by omega, fun i hi => ?_⟩⟩
  obtain ⟨x, x1, x2⟩ := r5 i (by omega)
  exact ⟨x, by rw [v3 i (by omega)]; exact x1, okM_c E2 calmQ x2⟩
theorem c75_tot (o : kQ h T ms) (hj : j < ms.length) : tot (m75 F 35 (Int32.ofNat j)) h (fun r h' => ∃ x, r = some x ∧ ext 0 XfQ (isQ h) h h' ∧ okM h' T x (ms.getD j zm0) ∧ kQ h' T (ms.eraseIdx j)) := by
  obtain ⟨ed, p1, p2, p3, p4, r0, r1, r2, r3, r4, r5⟩ := kQ_row o hj
  obtain ⟨x, x1, x2⟩ := r5 j hj
  obtain ⟨n, hn⟩ : ∃ n, n + 1 = ms.length := ⟨ms.length - 1, by omega⟩
  have hel : (ms.eraseIdx j).length = n := by rw [List.length_eraseIdx, if_pos hj]; omega
  unfold m75 b75_0
  rw [nn_some, mb_mr]
  refine tot_bind (by rw [ok_gi p1, p2]) (tot_bind (c70_eq hj (by omega)) (tot_bind (by rw [ok_gr p1, p4]) ?_))
  rw [nn_some, mb_mr]
  refine tot_bind (by rw [ok_lr r1 (i_nn (by omega)) (by rw [i_nat (by omega)]; omega), i_nat (by omega), x1]) (tot_bind (ok_vc p1) ?_)
  refine tot_mb (Q1 := fun _ h' => ext 0 XfQ (isQ h) h h' ∧ kQ h' T (ms.eraseIdx j)) ?_ (fun _ h' q => tot_mr ⟨x, rfl, q.1, okM_c q.1 calmQ x2, q.2⟩)
  unfold m76 b76_0
  rw [nn_some, mb_mr]
  refine tot_bind (ok_gi p1) (tot_bind (ok_pi p1) ?_)
  have E1 : ext 0 XfQ (isQ h) h (Ufi h 1002 35 (Hfi h 1002 35 + 1)) := ext_fi ⟨rfl, by decide⟩
  have w1 : Hfi (Ufi h 1002 35 (Hfi h 1002 35 + 1)) 1001 35 = Int32.ofNat ms.length := by rw [Hfi_Ufi, if_neg (by omega)]; exact p2
  have w2 : Hfr (Ufi h 1002 35 (Hfi h 1002 35 + 1)) 1000 35 = some ed := by rw [Hfr_Ufi]; exact p4
  have w3 : ∀ i, Her (Ufi h 1002 35 (Hfi h 1002 35 + 1)) ed i = Her h ed i := by intro i; rw [Her_Ufi]
  generalize Ufi h 1002 35 (Hfi h 1002 35 + 1) = h1 at *
  have el := (E1.2.1 _ r1.1).2
  refine tot_bind (by rw [ok_gi (lv_ext E1 p1), w1]) ?_
  have en : Int32.ofNat ms.length - 1 = Int32.ofNat n := by rw [i_sub1 (by omega) (by omega)]; congr 1; omega
  rw [en]
  by_cases q : n ≤ j
  · rw [if_pos (by rw [i_le (by omega) (by omega)]; exact q)]
    refine c76_end hn p3 (lv_ext E1 p1) r0 (lv_ext E1 r1) w2 (by omega) (by omega) (by omega) hel (fun i hi => ?_) (fun h' E o => ⟨ext_Q (k1 := 0) (k2 := 0) E1 E, o⟩)
    obtain ⟨y, y1, y2⟩ := r5 i (by omega)
    rw [getD_erase, if_pos (by omega)]
    exact ⟨y, by rw [w3]; exact y1, okM_c E1 calmQ y2⟩
  · rw [if_neg (by rw [i_le (by omega) (by omega)]; exact q)]
    unfold b76_22
    rw [nn_some, mb_mr, i_add1, i_sub (by omega) (by omega)]
    refine tot_bind (ok_cyr (by decide) (lv_ext E1 r1) (lv_ext E1 r1) (i_nn (by omega)) (i_nn (by omega)) (i_nn (by omega)) ?_ ?_ ?_) ?_
    · rw [i_nat (by omega), i_nat (by omega), el]; omega
    · rw [i_nat (by omega), i_nat (by omega), el]; omega
    · intro i hi b hb
      rw [i_nat (by omega)] at hi
      rw [i_nat (by omega), w3] at hb
      obtain ⟨y, y1, y2⟩ := r5 (j + 1 + i) (by omega)
      rw [y1] at hb
      cases hb
      exact lv_ext E1 y2.1
    rw [i_nat (by omega), i_nat (by omega), i_nat (by omega)]
    have E2 : ext 0 XfQ (isQ h) h (Ucr h1 ed (j + 1) ed j (n - j)) := ext_crS E1 (Or.inl ⟨r0, r1.2.2⟩)
    have v3 : ∀ i, i < n → Her (Ucr h1 ed (j + 1) ed j (n - j)) ed i = Her h ed (if i < j then i else i + 1) := by
      intro i hi
      rw [Her_Ucr]
      by_cases c : i < j
      · rw [if_neg (by omega), if_pos c]; exact w3 i
      · rw [if_pos ⟨rfl, by omega, by omega⟩, if_neg c, w3]
        congr 1
        omega
    have v2 : Hfr (Ucr h1 ed (j + 1) ed j (n - j)) 1000 35 = some ed := by rw [Hfr_Ucr]; exact w2
    generalize Ucr h1 ed (j + 1) ed j (n - j) = h2 at *
    have el2 := (E2.2.1 _ r1.1).2
    refine c76_end hn p3 (lv_ext E2 p1) r0 (lv_ext E2 r1) v2 (by omega) (by omega) (by omega) hel (fun i hi => ?_) (fun h' E o => ⟨ext_Q (k1 := 0) (k2 := 0) E2 E, o⟩)
    rw [v3 i hi, getD_erase]
    by_cases c : i < j
    · rw [if_pos c, if_pos c]
      obtain ⟨y, y1, y2⟩ := r5 i (by omega)
      exact ⟨y, y1, okM_c E2 calmQ y2⟩
    · rw [if_neg c, if_neg c]
      obtain ⟨y, y1, y2⟩ := r5 (i + 1) (by omega)
      exact ⟨y, y1, okM_c E2 calmQ y2⟩
end QU4
