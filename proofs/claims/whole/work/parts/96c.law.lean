/-! The law: one call. -/
def Good (j : Nat) (h : xv_H) : Prop := ∃ S T, CR h S T ∧ RR h S ∧ II j S ∧ Hn h ≤ 77 + 100 * j ∧ Hz h ≤ 30000 + 8000 * j
section LAWC
variable {F j L : Nat} {h : xv_H} {S : zS} {T : zT} {xs : Nat → Int32} {k18 : Option Nat → Option Nat → Int32 → xm Int32} {Q : Int32 → xv_H → Prop}
theorem ls_ok {i : Nat} (hi : i < L) (hL : L ≤ 2048) : ls (L, xs) (Int32.ofNat i) h = some (xs i, h) := by
  unfold ls
  rw [i_nat (by omega), if_pos ⟨i_nn (by omega), hi⟩]
theorem II_op (o : II j S) : opOK S := by
  obtain ⟨lv, nl, o⟩ := o
  intro c hc
  by_cases e : c_op (s_cl S c) = 0
  · rw [e]; exact Nat.zero_le _
  · exact ((o.2.2.2.1 c hc).2 e).1
theorem II_bg (o : II j S) : s_bg S ≤ j := by
  obtain ⟨lv, nl, o⟩ := o
  exact o.2.2.2.2.2.2.2.2.1.1
theorem II_dn (o : II j S) : ∀ c, c < 2 → s_dn S (3 + c) = true → c_op (s_cl S c) = 0 := by
  obtain ⟨lv, nl, o⟩ := o
  intro c hc hd
  apply Classical.byContradiction
  intro e
  rw [((o.2.2.2.1 c hc).2 e).2.2.1] at hd
  cases hd
theorem II_J (o : II j S) : ∀ d, d < 2 → ¬ c_st (s_cl S d) = 0 → isJ (c_jb (s_cl S d)) := by
  obtain ⟨lv, nl, o⟩ := o
  exact fun d hd => (o.2.2.2.1 d hd).1.2.2
theorem II_wS (o : II j S) (hj : j ≤ 511) : wS S := by obtain ⟨lv, nl, o⟩ := o; exact INV_wS o hj
theorem II_wR (o : II j S) (hj : j ≤ 511) : wR S := by obtain ⟨lv, nl, o⟩ := o; exact INV_wR o hj
theorem II_wk (o : II j S) (jb : Int32) : wkOK S jb := by obtain ⟨lv, nl, o⟩ := o; exact INV_wk o jb
theorem II_pc (o : II j S) : pcOK S := by obtain ⟨lv, nl, o⟩ := o; exact INV_pc o
theorem II_len (o : II j S) : ∀ b, b < 24 → (s_ce S b).2.2.2.2.1.length < 60 ∧ (s_ce S b).2.2.2.2.2.length < 60 := by obtain ⟨lv, nl, o⟩ := o; exact INV_len o
theorem hb_of (o : RR h S) (hj : j ≤ 511) (hn : Hn h ≤ 77 + 100 * j) : hb 400 h := by
  have := gq_n o.1
  exact ⟨by omega, by omega⟩
theorem good_next {h1 h2 : xv_H} {S2 : zS} {T2 : zT} (hn : Hn h ≤ 77 + 100 * j) (hz : Hz h ≤ 30000 + 8000 * j) (e1 : gw 100 h h1) (e2 : agR h1 h2) (c : CR h1 S2 T2) (r : RR h2 S2) (i : II (j + 1) S2) : Good (j + 1) h2 := by
  obtain ⟨⟨a1, a2, a3⟩, _⟩ := e1
  have b1 := e2.1.1
  have b2 := e2.1.2.1
  exact ⟨S2, T2, CR_R e2 (II_op i) c, r, i, by omega, by omega⟩
theorem good_same (o : CR h S T) (r : RR h S) (i : II j S) (hn : Hn h ≤ 77 + 100 * j) (hz : Hz h ≤ 30000 + 8000 * j) : Good (j + 1) h := ⟨S, T, o, r, II_n i, by omega, by omega⟩
theorem drop_RR {i : Int32} (o : RR h S) (F) (hF : 1000 ≤ F) : tot (m128 F 37 i) h (fun r h' => r = (Xdrop i S).1 ∧ agR h h' ∧ RR h' (Xdrop i S).2) := by
  have e : nIt (s_ti (Xdrop i S).2) (s_bg (Xdrop i S).2) = nIt (s_ti S) (s_bg S) ∧ s_cl (Xdrop i S).2 = s_cl S := by
    unfold Xdrop
    split <;> exact ⟨rfl, rfl⟩
  refine tot_mono (r128_tot hF o) (fun r h1 q => ⟨q.1, q.2.1, ?_⟩)
  unfold RR
  rw [e.1, e.2]
  exact q.2.2
theorem drop_CR {i : Int32} (o : CR h S T) (w : wS S) : tot (m98 F 0 i) h (fun r h' => r = (Xdrop i S).1 ∧ (∃ T', CR h' (Xdrop i S).2 T') ∧ gw 100 h h') :=
  tot_mono (c98_tot o w) (fun _ _ q => ⟨q.1, ⟨T, q.2.1⟩, q.2.2⟩)
theorem law_on (k : ∀ h', Good (j + 1) h' → tot (k18 (some 0) (some 37) (Int32.ofNat (4 * (j + 1)))) h' Q) (g : Good (j + 1) h) : tot (b188_671 (L, xs) k18 F (some 0) (some 37) (Int32.ofNat (4 * j))) h Q := by
  unfold b188_671
  rw [show Int32.ofNat (4 * j) + 4 = Int32.ofNat (4 * (j + 1)) from i_add (b := 4)]
  exact k h g
theorem law_124 (hF : 1000 ≤ F) (hL : L ≤ 2048) (hl : 4 * j + 3 < L) (hg : Good j h) (k : ∀ h', Good (j + 1) h' → tot (k18 (some 0) (some 37) (Int32.ofNat (4 * (j + 1)))) h' Q) : tot (b188_124 (L, xs) k18 F (some 0) (some 37) (Int32.ofNat (4 * j))) h Q := by
  obtain ⟨S, T, o, r, i, hn, hz⟩ := hg
  have hj : j ≤ 511 := by omega
  unfold b188_124
  rw [show Int32.ofNat (4 * j) + 1 = Int32.ofNat (4 * j + 1) from i_add1]
  rw [show Int32.ofNat (4 * j) + 2 = Int32.ofNat (4 * j + 2) from i_add (b := 2)]
  refine tot_bind (ls_ok (i := 4 * j + 1) (by omega) hL) ?_
  refine tot_bind (ls_ok (i := 4 * j + 2) (by omega) hL) ?_
  rw [nn_some, mb_mr]
  refine tot_bind (ok_vc o.1.1.1) (tot_mb (c9_tot hF o (II_wS i hj) (by have := II_bg i; omega) (hb_of r hj hn)) (fun x1 h1 q1 => ?_))
  obtain ⟨e1, ⟨T2, o2⟩, g1⟩ := q1
  have r2 := RR_g g1 r
  refine tot_bind (ls_ok (i := 4 * j + 1) (by omega) hL) ?_
  refine tot_bind (ls_ok (i := 4 * j + 2) (by omega) hL) ?_
  rw [nn_some, mb_mr]
  refine tot_bind (rF_vc r2.1) (tot_mb (r172_tot hF r2 (II_wR i hj) (by have := II_bg i; omega) (II_wk i 1)) (fun x2 h2 q2 => ?_))
  obtain ⟨e2, g2, r3⟩ := q2
  rw [if_pos (e1.trans e2.symm)]
  exact law_on k (good_next hn hz g1 g2 o2 r3 (II_work (Or.inl rfl) i))
theorem law_157 (hF : 1000 ≤ F) (hL : L ≤ 2048) (hl : 4 * j + 3 < L) (hg : Good j h) (k : ∀ h', Good (j + 1) h' → tot (k18 (some 0) (some 37) (Int32.ofNat (4 * (j + 1)))) h' Q) : tot (b188_157 (L, xs) k18 F (some 0) (some 37) (Int32.ofNat (4 * j))) h Q := by
  obtain ⟨S, T, o, r, i, hn, hz⟩ := hg
  have hj : j ≤ 511 := by omega
  unfold b188_157
  rw [show Int32.ofNat (4 * j) + 1 = Int32.ofNat (4 * j + 1) from i_add1]
  rw [show Int32.ofNat (4 * j) + 2 = Int32.ofNat (4 * j + 2) from i_add (b := 2)]
  rw [show Int32.ofNat (4 * j) + 3 = Int32.ofNat (4 * j + 3) from i_add (b := 3)]
  refine tot_bind (ls_ok (i := 4 * j + 1) (by omega) hL) ?_
  refine tot_bind (ls_ok (i := 4 * j + 2) (by omega) hL) ?_
  refine tot_bind (ls_ok (i := 4 * j + 3) (by omega) hL) ?_
  rw [nn_some, mb_mr]
  refine tot_bind (ok_vc o.1.1.1) (tot_mb (c63_tot hF o (II_wS i hj) (by have := II_bg i; omega) (hb_of r hj hn)) (fun x1 h1 q1 => ?_))
  obtain ⟨e1, ⟨T2, o2⟩, g1⟩ := q1
  have r2 := RR_g g1 r
  refine tot_bind (ls_ok (i := 4 * j + 1) (by omega) hL) ?_
  refine tot_bind (ls_ok (i := 4 * j + 2) (by omega) hL) ?_
  refine tot_bind (ls_ok (i := 4 * j + 3) (by omega) hL) ?_
  rw [nn_some, mb_mr]
  refine tot_bind (rF_vc r2.1) (tot_mb (r175_tot hF r2 (II_wR i hj) (by have := II_bg i; omega) (II_wk i 2)) (fun x2 h2 q2 => ?_))
  obtain ⟨e2, g2, r3⟩ := q2
  rw [if_pos (e1.trans e2.symm)]
  exact law_on k (good_next hn hz g1 g2 o2 r3 (II_work (Or.inr (Or.inl rfl)) i))
theorem law_200 (hF : 1000 ≤ F) (hL : L ≤ 2048) (hl : 4 * j + 3 < L) (hg : Good j h) (k : ∀ h', Good (j + 1) h' → tot (k18 (some 0) (some 37) (Int32.ofNat (4 * (j + 1)))) h' Q) : tot (b188_200 (L, xs) k18 F (some 0) (some 37) (Int32.ofNat (4 * j))) h Q := by
  obtain ⟨S, T, o, r, i, hn, hz⟩ := hg
  have hj : j ≤ 511 := by omega
  unfold b188_200
  rw [show Int32.ofNat (4 * j) + 1 = Int32.ofNat (4 * j + 1) from i_add1]
  rw [show Int32.ofNat (4 * j) + 2 = Int32.ofNat (4 * j + 2) from i_add (b := 2)]
  refine tot_bind (ls_ok (i := 4 * j + 1) (by omega) hL) ?_
  refine tot_bind (ls_ok (i := 4 * j + 2) (by omega) hL) ?_
  rw [nn_some, mb_mr]
  refine tot_bind (ok_vc o.1.1.1) (tot_mb (c64_tot hF o (II_wS i hj) (by have := II_bg i; omega) (hb_of r hj hn)) (fun x1 h1 q1 => ?_))
  obtain ⟨e1, ⟨T2, o2⟩, g1⟩ := q1
  have r2 := RR_g g1 r
  refine tot_bind (ls_ok (i := 4 * j + 1) (by omega) hL) ?_
  refine tot_bind (ls_ok (i := 4 * j + 2) (by omega) hL) ?_
  rw [nn_some, mb_mr]
  refine tot_bind (rF_vc r2.1) (tot_mb (r176_tot hF r2 (II_wR i hj) (by have := II_bg i; omega) (II_wk i 3)) (fun x2 h2 q2 => ?_))
  obtain ⟨e2, g2, r3⟩ := q2
  rw [if_pos (e1.trans e2.symm)]
  exact law_on k (good_next hn hz g1 g2 o2 r3 (II_work (Or.inr (Or.inr (Or.inl rfl))) i))
theorem law_233 (hF : 1000 ≤ F) (hL : L ≤ 2048) (hl : 4 * j + 3 < L) (hg : Good j h) (k : ∀ h', Good (j + 1) h' → tot (k18 (some 0) (some 37) (Int32.ofNat (4 * (j + 1)))) h' Q) : tot (b188_233 (L, xs) k18 F (some 0) (some 37) (Int32.ofNat (4 * j))) h Q := by
  obtain ⟨S, T, o, r, i, hn, hz⟩ := hg
  have hj : j ≤ 511 := by omega
  unfold b188_233
  rw [show Int32.ofNat (4 * j) + 1 = Int32.ofNat (4 * j + 1) from i_add1]
  rw [show Int32.ofNat (4 * j) + 2 = Int32.ofNat (4 * j + 2) from i_add (b := 2)]
  rw [show Int32.ofNat (4 * j) + 3 = Int32.ofNat (4 * j + 3) from i_add (b := 3)]
  refine tot_bind (ls_ok (i := 4 * j + 1) (by omega) hL) ?_
  refine tot_bind (ls_ok (i := 4 * j + 2) (by omega) hL) ?_
  refine tot_bind (ls_ok (i := 4 * j + 3) (by omega) hL) ?_
  rw [nn_some, mb_mr]
  refine tot_bind (ok_vc o.1.1.1) (tot_mb (c65_tot hF o (II_wS i hj) (by have := II_bg i; omega) (hb_of r hj hn)) (fun x1 h1 q1 => ?_))
  obtain ⟨e1, ⟨T2, o2⟩, g1⟩ := q1
  have r2 := RR_g g1 r
  refine tot_bind (ls_ok (i := 4 * j + 1) (by omega) hL) ?_
  refine tot_bind (ls_ok (i := 4 * j + 2) (by omega) hL) ?_
  refine tot_bind (ls_ok (i := 4 * j + 3) (by omega) hL) ?_
  rw [nn_some, mb_mr]
  refine tot_bind (rF_vc r2.1) (tot_mb (r177_tot hF r2 (II_wR i hj) (by have := II_bg i; omega) (II_wk i 4)) (fun x2 h2 q2 => ?_))
  obtain ⟨e2, g2, r3⟩ := q2
  rw [if_pos (e1.trans e2.symm)]
  exact law_on k (good_next hn hz g1 g2 o2 r3 (II_work (Or.inr (Or.inr (Or.inr rfl))) i))
theorem law_312 (hF : 1000 ≤ F) (hL : L ≤ 2048) (hl : 4 * j + 3 < L) (hg : Good j h) (k : ∀ h', Good (j + 1) h' → tot (k18 (some 0) (some 37) (Int32.ofNat (4 * (j + 1)))) h' Q) : tot (b188_312 (L, xs) k18 F (some 0) (some 37) (Int32.ofNat (4 * j))) h Q := by
  obtain ⟨S, T, o, r, i, hn, hz⟩ := hg
  have hj : j ≤ 511 := by omega
  unfold b188_312
  rw [show Int32.ofNat (4 * j) + 1 = Int32.ofNat (4 * j + 1) from i_add1]
  refine tot_bind (ls_ok (i := 4 * j + 1) (by omega) hL) ?_
  rw [nn_some, mb_mr]
  refine tot_bind (ok_vc o.1.1.1) (tot_mb (c74_tot hF o (II_wS i hj) (by have := II_bg i; omega) (hb_of r hj hn)) (fun x1 h1 q1 => ?_))
  obtain ⟨e1, ⟨T2, o2⟩, g1⟩ := q1
  have r2 := RR_g g1 r
  refine tot_bind (ls_ok (i := 4 * j + 1) (by omega) hL) ?_
  rw [nn_some, mb_mr]
  refine tot_bind (rF_vc r2.1) (tot_mb (r129_tot hF r2 (II_wR i hj) (by have := II_bg i; omega)) (fun x2 h2 q2 => ?_))
  obtain ⟨e2, g2, r3⟩ := q2
  rw [if_pos (e1.trans e2.symm)]
  exact law_on k (good_next hn hz g1 g2 o2 r3 (II_deliver i (by omega)))
theorem law_335 (hF : 1000 ≤ F) (hL : L ≤ 2048) (hl : 4 * j + 3 < L) (hg : Good j h) (k : ∀ h', Good (j + 1) h' → tot (k18 (some 0) (some 37) (Int32.ofNat (4 * (j + 1)))) h' Q) : tot (b188_335 (L, xs) k18 F (some 0) (some 37) (Int32.ofNat (4 * j))) h Q := by
  obtain ⟨S, T, o, r, i, hn, hz⟩ := hg
  have hj : j ≤ 511 := by omega
  unfold b188_335
  rw [show Int32.ofNat (4 * j) + 1 = Int32.ofNat (4 * j + 1) from i_add1]
  refine tot_bind (ls_ok (i := 4 * j + 1) (by omega) hL) ?_
  rw [nn_some, mb_mr]
  refine tot_bind (ok_vc o.1.1.1) (tot_mb (drop_CR o (II_wS i hj)) (fun x1 h1 q1 => ?_))
  obtain ⟨e1, ⟨T2, o2⟩, g1⟩ := q1
  have r2 := RR_g g1 r
  refine tot_bind (ls_ok (i := 4 * j + 1) (by omega) hL) ?_
  rw [nn_some, mb_mr]
  refine tot_bind (rF_vc r2.1) (tot_mb (drop_RR r2 F hF) (fun x2 h2 q2 => ?_))
  obtain ⟨e2, g2, r3⟩ := q2
  rw [if_pos (e1.trans e2.symm)]
  exact law_on k (good_next hn hz g1 g2 o2 r3 (II_drop i))
theorem law_358 (hF : 1000 ≤ F) (hL : L ≤ 2048) (hl : 4 * j + 3 < L) (hg : Good j h) (k : ∀ h', Good (j + 1) h' → tot (k18 (some 0) (some 37) (Int32.ofNat (4 * (j + 1)))) h' Q) : tot (b188_358 (L, xs) k18 F (some 0) (some 37) (Int32.ofNat (4 * j))) h Q := by
  obtain ⟨S, T, o, r, i, hn, hz⟩ := hg
  have hj : j ≤ 511 := by omega
  unfold b188_358
  rw [show Int32.ofNat (4 * j) + 1 = Int32.ofNat (4 * j + 1) from i_add1]
  refine tot_bind (ls_ok (i := 4 * j + 1) (by omega) hL) ?_
  rw [nn_some, mb_mr]
  refine tot_bind (ok_vc o.1.1.1) (tot_mb (c99_tot hF o (II_wS i hj) (hb_of r hj hn)) (fun x1 h1 q1 => ?_))
  obtain ⟨e1, ⟨T2, o2⟩, g1⟩ := q1
  have r2 := RR_g g1 r
  refine tot_bind (ls_ok (i := 4 * j + 1) (by omega) hL) ?_
  rw [nn_some, mb_mr]
  refine tot_bind (rF_vc r2.1) (tot_mb (r178_tot hF r2 (II_wR i hj) (II_dn i)) (fun x2 h2 q2 => ?_))
  obtain ⟨e2, g2, r3⟩ := q2
  rw [if_pos (e1.trans e2.symm)]
  exact law_on k (good_next hn hz g1 g2 o2 r3 (II_resend i))
theorem law_381 (hF : 1000 ≤ F) (hL : L ≤ 2048) (hl : 4 * j + 3 < L) (hg : Good j h) (k : ∀ h', Good (j + 1) h' → tot (k18 (some 0) (some 37) (Int32.ofNat (4 * (j + 1)))) h' Q) : tot (b188_381 (L, xs) k18 F (some 0) (some 37) (Int32.ofNat (4 * j))) h Q := by
  obtain ⟨S, T, o, r, i, hn, hz⟩ := hg
  have hj : j ≤ 511 := by omega
  unfold b188_381
  rw [show Int32.ofNat (4 * j) + 1 = Int32.ofNat (4 * j + 1) from i_add1]
  refine tot_bind (ls_ok (i := 4 * j + 1) (by omega) hL) ?_
  rw [nn_some, mb_mr]
  refine tot_bind (ok_vc o.1.1.1) (tot_mb (c100_tot hF o (II_wS i hj)) (fun x1 h1 q1 => ?_))
  obtain ⟨e1, ⟨T2, o2⟩, g1⟩ := q1
  have r2 := RR_g g1 r
  refine tot_bind (ls_ok (i := 4 * j + 1) (by omega) hL) ?_
  rw [nn_some, mb_mr]
  refine tot_bind (rF_vc r2.1) (tot_mb (r179_tot hF r2) (fun x2 h2 q2 => ?_))
  obtain ⟨e2, g2, r3⟩ := q2
  rw [if_pos (e1.trans e2.symm)]
  exact law_on k (good_next hn hz g1 g2 o2 r3 (II_crash i))
theorem law_404 (hF : 1000 ≤ F) (hL : L ≤ 2048) (hl : 4 * j + 3 < L) (hg : Good j h) (k : ∀ h', Good (j + 1) h' → tot (k18 (some 0) (some 37) (Int32.ofNat (4 * (j + 1)))) h' Q) : tot (b188_404 (L, xs) k18 F (some 0) (some 37) (Int32.ofNat (4 * j))) h Q := by
  obtain ⟨S, T, o, r, i, hn, hz⟩ := hg
  have hj : j ≤ 511 := by omega
  unfold b188_404
  rw [show Int32.ofNat (4 * j) + 1 = Int32.ofNat (4 * j + 1) from i_add1]
  refine tot_bind (ls_ok (i := 4 * j + 1) (by omega) hL) ?_
  rw [nn_some, mb_mr]
  refine tot_bind (ok_vc o.1.1.1) (tot_mb (c104_tot o (II_wS i hj)) (fun x1 h1 q1 => ?_))
  obtain ⟨e1, ⟨T2, o2⟩, g1⟩ := q1
  have r2 := RR_g g1 r
  refine tot_bind (ls_ok (i := 4 * j + 1) (by omega) hL) ?_
  rw [nn_some, mb_mr]
  refine tot_bind (rF_vc r2.1) (tot_mb (r180_tot r2) (fun x2 h2 q2 => ?_))
  obtain ⟨e2, g2, r3⟩ := q2
  rw [if_pos (e1.trans e2.symm)]
  exact law_on k (good_next hn hz g1 g2 o2 r3 (II_restart i))
theorem law_427 (hF : 1000 ≤ F) (hL : L ≤ 2048) (hl : 4 * j + 3 < L) (hg : Good j h) (k : ∀ h', Good (j + 1) h' → tot (k18 (some 0) (some 37) (Int32.ofNat (4 * (j + 1)))) h' Q) : tot (b188_427 (L, xs) k18 F (some 0) (some 37) (Int32.ofNat (4 * j))) h Q := by
  obtain ⟨S, T, o, r, i, hn, hz⟩ := hg
  have hj : j ≤ 511 := by omega
  unfold b188_427
  rw [show Int32.ofNat (4 * j) + 1 = Int32.ofNat (4 * j + 1) from i_add1]
  refine tot_bind (ls_ok (i := 4 * j + 1) (by omega) hL) ?_
  rw [nn_some, mb_mr]
  refine tot_bind (ok_vc o.1.1.1) (tot_mb (c105_tot hF o (II_wS i hj) (by have := II_bg i; omega) (hb_of r hj hn)) (fun x1 h1 q1 => ?_))
  obtain ⟨e1, ⟨T2, o2⟩, g1⟩ := q1
  have r2 := RR_g g1 r
  refine tot_bind (ls_ok (i := 4 * j + 1) (by omega) hL) ?_
  rw [nn_some, mb_mr]
  refine tot_bind (rF_vc r2.1) (tot_mb (r171_tot hF r2 (II_wR i hj) (II_pc i)) (fun x2 h2 q2 => ?_))
  obtain ⟨e2, g2, r3⟩ := q2
  rw [if_pos (e1.trans e2.symm)]
  exact law_on k (good_next hn hz g1 g2 o2 r3 (II_recover i))
theorem law_276 (hF : 1000 ≤ F) (hL : L ≤ 2048) (hl : 4 * j + 3 < L) (hg : Good j h) (k : ∀ h', Good (j + 1) h' → tot (k18 (some 0) (some 37) (Int32.ofNat (4 * (j + 1)))) h' Q) : tot (b188_276 (L, xs) k18 F (some 0) (some 37) (Int32.ofNat (4 * j))) h Q := by
  obtain ⟨S, T, o, r, i, hn, hz⟩ := hg
  have hj : j ≤ 511 := by omega
  unfold b188_276
  rw [nn_some, mb_mr]
  refine tot_bind (ok_vc o.1.1.1) (tot_bind (c66_eq o) ?_)
  rw [nn_some, mb_mr]
  refine tot_bind (rF_vc r.1) (tot_bind (r125_eq r) ?_)
  rw [if_pos rfl]
  exact law_on k (good_same o r i hn hz)
theorem law_289 (hF : 1000 ≤ F) (hL : L ≤ 2048) (hl : 4 * j + 3 < L) (hg : Good j h) (k : ∀ h', Good (j + 1) h' → tot (k18 (some 0) (some 37) (Int32.ofNat (4 * (j + 1)))) h' Q) : tot (b188_289 (L, xs) k18 F (some 0) (some 37) (Int32.ofNat (4 * j))) h Q := by
  obtain ⟨S, T, o, r, i, hn, hz⟩ := hg
  have hj : j ≤ 511 := by omega
  unfold b188_289
  rw [show Int32.ofNat (4 * j) + 1 = Int32.ofNat (4 * j + 1) from i_add1]
  refine tot_bind (ls_ok (i := 4 * j + 1) (by omega) hL) ?_
  rw [nn_some, mb_mr]
  refine tot_bind (ok_vc o.1.1.1) (tot_bind (c67_eq o (II_wS i hj)) ?_)
  refine tot_bind (ls_ok (i := 4 * j + 1) (by omega) hL) ?_
  rw [nn_some, mb_mr]
  refine tot_bind (rF_vc r.1) (tot_bind (r126_eq r) ?_)
  rw [if_pos rfl]
  exact law_on k (good_same o r i hn hz)
theorem law_450 (hF : 1000 ≤ F) (hL : L ≤ 2048) (hl : 4 * j + 3 < L) (hg : Good j h) (k : ∀ h', Good (j + 1) h' → tot (k18 (some 0) (some 37) (Int32.ofNat (4 * (j + 1)))) h' Q) : tot (b188_450 (L, xs) k18 F (some 0) (some 37) (Int32.ofNat (4 * j))) h Q := by
  obtain ⟨S, T, o, r, i, hn, hz⟩ := hg
  have hj : j ≤ 511 := by omega
  unfold b188_450
  rw [show Int32.ofNat (4 * j) + 1 = Int32.ofNat (4 * j + 1) from i_add1]
  refine tot_bind (ls_ok (i := 4 * j + 1) (by omega) hL) ?_
  rw [nn_some, mb_mr]
  refine tot_bind (ok_vc o.1.1.1) (tot_bind (c111_eq o) ?_)
  refine tot_bind (ls_ok (i := 4 * j + 1) (by omega) hL) ?_
  rw [nn_some, mb_mr]
  refine tot_bind (rF_vc r.1) (tot_bind (r181_eq r) ?_)
  rw [if_pos rfl]
  exact law_on k (good_same o r i hn hz)
theorem law_473 (hF : 1000 ≤ F) (hL : L ≤ 2048) (hl : 4 * j + 3 < L) (hg : Good j h) (k : ∀ h', Good (j + 1) h' → tot (k18 (some 0) (some 37) (Int32.ofNat (4 * (j + 1)))) h' Q) : tot (b188_473 (L, xs) k18 F (some 0) (some 37) (Int32.ofNat (4 * j))) h Q := by
  obtain ⟨S, T, o, r, i, hn, hz⟩ := hg
  have hj : j ≤ 511 := by omega
  unfold b188_473
  rw [show Int32.ofNat (4 * j) + 1 = Int32.ofNat (4 * j + 1) from i_add1]
  rw [show Int32.ofNat (4 * j) + 2 = Int32.ofNat (4 * j + 2) from i_add (b := 2)]
  refine tot_bind (ls_ok (i := 4 * j + 1) (by omega) hL) ?_
  refine tot_bind (ls_ok (i := 4 * j + 2) (by omega) hL) ?_
  rw [nn_some, mb_mr]
  refine tot_bind (ok_vc o.1.1.1) (tot_bind (c112_eq o (II_op i) (II_J i)) ?_)
  refine tot_bind (ls_ok (i := 4 * j + 1) (by omega) hL) ?_
  refine tot_bind (ls_ok (i := 4 * j + 2) (by omega) hL) ?_
  rw [nn_some, mb_mr]
  refine tot_bind (rF_vc r.1) (tot_bind (r182_eq r) ?_)
  rw [if_pos rfl]
  exact law_on k (good_same o r i hn hz)
theorem law_506 (hF : 1000 ≤ F) (hL : L ≤ 2048) (hl : 4 * j + 3 < L) (hg : Good j h) (k : ∀ h', Good (j + 1) h' → tot (k18 (some 0) (some 37) (Int32.ofNat (4 * (j + 1)))) h' Q) : tot (b188_506 (L, xs) k18 F (some 0) (some 37) (Int32.ofNat (4 * j))) h Q := by
  obtain ⟨S, T, o, r, i, hn, hz⟩ := hg
  have hj : j ≤ 511 := by omega
  unfold b188_506
  rw [show Int32.ofNat (4 * j) + 1 = Int32.ofNat (4 * j + 1) from i_add1]
  rw [show Int32.ofNat (4 * j) + 2 = Int32.ofNat (4 * j + 2) from i_add (b := 2)]
  refine tot_bind (ls_ok (i := 4 * j + 1) (by omega) hL) ?_
  refine tot_bind (ls_ok (i := 4 * j + 2) (by omega) hL) ?_
  rw [nn_some, mb_mr]
  refine tot_bind (ok_vc o.1.1.1) (tot_bind (c116_eq o) ?_)
  refine tot_bind (ls_ok (i := 4 * j + 1) (by omega) hL) ?_
  refine tot_bind (ls_ok (i := 4 * j + 2) (by omega) hL) ?_
  rw [nn_some, mb_mr]
  refine tot_bind (rF_vc r.1) (tot_bind (r183_eq r) ?_)
  rw [if_pos rfl]
  exact law_on k (good_same o r i hn hz)
theorem law_539 (hF : 1000 ≤ F) (hL : L ≤ 2048) (hl : 4 * j + 3 < L) (hg : Good j h) (k : ∀ h', Good (j + 1) h' → tot (k18 (some 0) (some 37) (Int32.ofNat (4 * (j + 1)))) h' Q) : tot (b188_539 (L, xs) k18 F (some 0) (some 37) (Int32.ofNat (4 * j))) h Q := by
  obtain ⟨S, T, o, r, i, hn, hz⟩ := hg
  have hj : j ≤ 511 := by omega
  unfold b188_539
  rw [show Int32.ofNat (4 * j) + 1 = Int32.ofNat (4 * j + 1) from i_add1]
  rw [show Int32.ofNat (4 * j) + 2 = Int32.ofNat (4 * j + 2) from i_add (b := 2)]
  refine tot_bind (ls_ok (i := 4 * j + 1) (by omega) hL) ?_
  refine tot_bind (ls_ok (i := 4 * j + 2) (by omega) hL) ?_
  rw [nn_some, mb_mr]
  refine tot_bind (ok_vc o.1.1.1) (tot_bind (c118_eq o) ?_)
  refine tot_bind (ls_ok (i := 4 * j + 1) (by omega) hL) ?_
  refine tot_bind (ls_ok (i := 4 * j + 2) (by omega) hL) ?_
  rw [nn_some, mb_mr]
  refine tot_bind (rF_vc r.1) (tot_bind (r184_eq hF r (II_wR i hj).1 (by have := (II_wR i hj).2.2.2.2.2.1; omega) (II_wR i hj).2.1) ?_)
  rw [if_pos rfl]
  exact law_on k (good_same o r i hn hz)
theorem law_572 (hF : 1000 ≤ F) (hL : L ≤ 2048) (hl : 4 * j + 3 < L) (hg : Good j h) (k : ∀ h', Good (j + 1) h' → tot (k18 (some 0) (some 37) (Int32.ofNat (4 * (j + 1)))) h' Q) : tot (b188_572 (L, xs) k18 F (some 0) (some 37) (Int32.ofNat (4 * j))) h Q := by
  obtain ⟨S, T, o, r, i, hn, hz⟩ := hg
  have hj : j ≤ 511 := by omega
  unfold b188_572
  rw [show Int32.ofNat (4 * j) + 1 = Int32.ofNat (4 * j + 1) from i_add1]
  rw [show Int32.ofNat (4 * j) + 2 = Int32.ofNat (4 * j + 2) from i_add (b := 2)]
  refine tot_bind (ls_ok (i := 4 * j + 1) (by omega) hL) ?_
  refine tot_bind (ls_ok (i := 4 * j + 2) (by omega) hL) ?_
  rw [nn_some, mb_mr]
  refine tot_bind (ok_vc o.1.1.1) (tot_bind (c120_eq o (fun b hb => (II_len i b hb).1)) ?_)
  refine tot_bind (ls_ok (i := 4 * j + 1) (by omega) hL) ?_
  refine tot_bind (ls_ok (i := 4 * j + 2) (by omega) hL) ?_
  rw [nn_some, mb_mr]
  refine tot_bind (rF_vc r.1) (tot_bind (r185_eq r) ?_)
  rw [if_pos rfl]
  exact law_on k (good_same o r i hn hz)
theorem law_605 (hF : 1000 ≤ F) (hL : L ≤ 2048) (hl : 4 * j + 3 < L) (hg : Good j h) (k : ∀ h', Good (j + 1) h' → tot (k18 (some 0) (some 37) (Int32.ofNat (4 * (j + 1)))) h' Q) : tot (b188_605 (L, xs) k18 F (some 0) (some 37) (Int32.ofNat (4 * j))) h Q := by
  obtain ⟨S, T, o, r, i, hn, hz⟩ := hg
  have hj : j ≤ 511 := by omega
  unfold b188_605
  rw [show Int32.ofNat (4 * j) + 1 = Int32.ofNat (4 * j + 1) from i_add1]
  rw [show Int32.ofNat (4 * j) + 2 = Int32.ofNat (4 * j + 2) from i_add (b := 2)]
  refine tot_bind (ls_ok (i := 4 * j + 1) (by omega) hL) ?_
  refine tot_bind (ls_ok (i := 4 * j + 2) (by omega) hL) ?_
  rw [nn_some, mb_mr]
  refine tot_bind (ok_vc o.1.1.1) (tot_bind (c121_eq o (fun b hb => (II_len i b hb).2)) ?_)
  refine tot_bind (ls_ok (i := 4 * j + 1) (by omega) hL) ?_
  refine tot_bind (ls_ok (i := 4 * j + 2) (by omega) hL) ?_
  rw [nn_some, mb_mr]
  refine tot_bind (rF_vc r.1) (tot_bind (r186_eq r) ?_)
  rw [if_pos rfl]
  exact law_on k (good_same o r i hn hz)
theorem law_638 (hF : 1000 ≤ F) (hL : L ≤ 2048) (hl : 4 * j + 3 < L) (hg : Good j h) (k : ∀ h', Good (j + 1) h' → tot (k18 (some 0) (some 37) (Int32.ofNat (4 * (j + 1)))) h' Q) : tot (b188_638 (L, xs) k18 F (some 0) (some 37) (Int32.ofNat (4 * j))) h Q := by
  obtain ⟨S, T, o, r, i, hn, hz⟩ := hg
  have hj : j ≤ 511 := by omega
  unfold b188_638
  rw [show Int32.ofNat (4 * j) + 1 = Int32.ofNat (4 * j + 1) from i_add1]
  rw [show Int32.ofNat (4 * j) + 2 = Int32.ofNat (4 * j + 2) from i_add (b := 2)]
  refine tot_bind (ls_ok (i := 4 * j + 1) (by omega) hL) ?_
  refine tot_bind (ls_ok (i := 4 * j + 2) (by omega) hL) ?_
  rw [nn_some, mb_mr]
  refine tot_bind (ok_vc o.1.1.1) (tot_bind (c122_eq o (by have := II_bg i; omega)) ?_)
  refine tot_bind (ls_ok (i := 4 * j + 1) (by omega) hL) ?_
  refine tot_bind (ls_ok (i := 4 * j + 2) (by omega) hL) ?_
  rw [nn_some, mb_mr]
  refine tot_bind (rF_vc r.1) (tot_bind (r187_eq r (by have := II_bg i; omega)) ?_)
  rw [if_pos rfl]
  exact law_on k (good_same o r i hn hz)
theorem law_26 (hF : 1000 ≤ F) (hL : L ≤ 2048) (hl : 4 * j + 3 < L) (hg : Good j h) (k : ∀ h', Good (j + 1) h' → tot (k18 (some 0) (some 37) (Int32.ofNat (4 * (j + 1)))) h' Q) : tot (b188_26 (L, xs) k18 F (some 0) (some 37) (Int32.ofNat (4 * j))) h Q := by
  unfold b188_26
  refine tot_bind (ls_ok (i := 4 * j) (by omega) hL) ?_
  generalize xs (4 * j) &&& 31 = w
  by_cases w0 : w = 0
  · rw [if_pos w0]; exact law_124 hF hL hl hg k
  rw [if_neg w0]
  by_cases w1 : w = 1
  · rw [if_pos w1]; exact law_157 hF hL hl hg k
  rw [if_neg w1]
  by_cases w2 : w = 2
  · rw [if_pos w2]; exact law_200 hF hL hl hg k
  rw [if_neg w2]
  by_cases w3 : w = 3
  · rw [if_pos w3]; exact law_233 hF hL hl hg k
  rw [if_neg w3]
  by_cases w4 : w = 4
  · rw [if_pos w4]; exact law_276 hF hL hl hg k
  rw [if_neg w4]
  by_cases w5 : w = 5
  · rw [if_pos w5]; exact law_289 hF hL hl hg k
  rw [if_neg w5]
  by_cases w6 : w = 6
  · rw [if_pos w6]; exact law_312 hF hL hl hg k
  rw [if_neg w6]
  by_cases w7 : w = 7
  · rw [if_pos w7]; exact law_335 hF hL hl hg k
  rw [if_neg w7]
  by_cases w8 : w = 8
  · rw [if_pos w8]; exact law_358 hF hL hl hg k
  rw [if_neg w8]
  by_cases w9 : w = 9
  · rw [if_pos w9]; exact law_381 hF hL hl hg k
  rw [if_neg w9]
  by_cases w10 : w = 10
  · rw [if_pos w10]; exact law_404 hF hL hl hg k
  rw [if_neg w10]
  by_cases w11 : w = 11
  · rw [if_pos w11]; exact law_427 hF hL hl hg k
  rw [if_neg w11]
  by_cases w12 : w = 12
  · rw [if_pos w12]; exact law_450 hF hL hl hg k
  rw [if_neg w12]
  by_cases w13 : w = 13
  · rw [if_pos w13]; exact law_473 hF hL hl hg k
  rw [if_neg w13]
  by_cases w14 : w = 14
  · rw [if_pos w14]; exact law_506 hF hL hl hg k
  rw [if_neg w14]
  by_cases w15 : w = 15
  · rw [if_pos w15]; exact law_539 hF hL hl hg k
  rw [if_neg w15]
  by_cases w16 : w = 16
  · rw [if_pos w16]; exact law_572 hF hL hl hg k
  rw [if_neg w16]
  by_cases w17 : w = 17
  · rw [if_pos w17]; exact law_605 hF hL hl hg k
  rw [if_neg w17]
  by_cases w18 : w = 18
  · rw [if_pos w18]; exact law_638 hF hL hl hg k
  rw [if_neg w18]
  obtain ⟨S, T, o, r, i, hn, hz⟩ := hg
  exact law_on k (good_same o r i hn hz)
theorem law_18 (hF : 1000 ≤ F) (hL : L ≤ 2048) : ∀ (f j : Nat) (h : xv_H), Good j h → 513 < f + j → j ≤ 512 → tot (b188_18 (L, xs) F f (some 0) (some 37) (Int32.ofNat (4 * j))) h (fun r h' => r = 1 ∧ Hn h' ≤ 600000 ∧ Hz h' ≤ 7302250) := by
  intro f
  induction f with
  | zero => intro j h _ h1 h2; omega
  | succ f ih =>
    intro j h g h1 h2
    unfold b188_18
    have e4 : (Int32.ofNat L - 4).toInt = (L : Int) - 4 := by
      by_cases q : 4 ≤ L
      · rw [show Int32.ofNat L - 4 = Int32.ofNat (L - 4) from i_sub (b := 4) q (by omega), i_toInt (by omega)]; omega
      · have : L = 0 ∨ L = 1 ∨ L = 2 ∨ L = 3 := by omega
        rcases this with rfl | rfl | rfl | rfl <;> decide
    by_cases q : Int32.ofNat L - 4 < Int32.ofNat (4 * j)
    · rw [if_pos q]
      unfold b188_677
      obtain ⟨S, T, o, r, i, hn, hz⟩ := g
      exact tot_bind bz_1 (tot_mr ⟨rfl, by omega, by omega⟩)
    · rw [if_neg q]
      rw [Int32.lt_iff_toInt_lt, e4, i_toInt (by omega)] at q
      refine law_26 hF hL (by omega) g (fun h' g' => ih (j + 1) h' g' (by omega) (by omega))
theorem law_run (xs : Nat → Int32) (hL : L ≤ 2048) : tot (m188 (L, xs) 2000) hZ (fun r h' => r = 1 ∧ Hn h' ≤ 600000 ∧ Hz h' ≤ 7302250) := by
  have t := law_18 (F := 2000) (xs := xs) (by decide) hL 2000 0 hB ⟨S0, _, CR_0, RR_0, II_0, by have := hB_n; omega, by have := hB_n; omega⟩ (by decide) (by decide)
  have e : m188 (L, xs) 2000 = mb (mb (nw 0 5) fun v1 => mb (m0 2000 v1) fun _ => mb (nw 9 42) fun v2 => mb (m123 2000 v2) fun _ => mr (v1, v2)) (fun r => b188_18 (L, xs) 2000 2000 (some r.1) (some r.2) 0) := by
    unfold m188 b188_0
    simp only [mb_assoc, mb_mr]
  rw [e]
  exact tot_bind runB_eq t
end LAWC
