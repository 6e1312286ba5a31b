/-! What a memory node does: carry out, take, accept, commit, abort. -/
theorem i_ne0 {a : Nat} (h : a < 2147483648) (n : ¬ a = 0) : ¬ Int32.ofNat a = 0 := fun z => n ((i_eq (a := a) (b := 0) h (by decide)).mp z)
section MEM3
variable {h h1 h2 : xv_H} {F f x y c t m n K : Nat} {u : Bool} {ce : Nat → Int32 × zN} {lk : Nat → Nat} {rm : Nat → Nat → Int32} {its : List zI} {i : zI} {v : Int32 × zN} {an : Nat → Bool}
/-- remembered[t] = w -/
theorem ok_rem {w : Int32} (o : kM h m u ce lk rm) (hm : m < 3) (ht : t < 513) (hw : w.toInt8.toInt32 = w) : sb (9 + 4 * m) (Int32.ofNat t) w h = some ((), Uei h (9 + 4 * m) t w) := by
  rw [ok_sb o.1.2.2.2.1 (i_nn (by omega)) (by rw [i_nat (by omega), o.1.2.2.2.2]; exact ht), i_nat (by omega), hw]
theorem c88_end (hm : m < 3) (ht : t < 513) (o : kM h m u ce lk rm) (ot : okTx h x c t its) : tot (b88_77 F (some (6 + 4 * m)) (some x)) h (fun _ h' => ext 0 Xf0 (XaM m) h h' ∧ kM h' m u ce lk (fset2 rm t m 2)) := by
  obtain ⟨v3, _, _, _, m3, _⟩ := kM_d o
  obtain ⟨_, _, _, _, _, _, d5, _⟩ := okTx_d ot
  unfold b88_77
  rw [nn_some, mb_mr]
  refine tot_bind m3 ?_
  rw [nn_some, mb_mr]
  refine tot_bind d5 ?_
  rw [nn_some, mb_mr]
  refine tot_bind (ok_rem o hm ht (by decide)) ?_
  exact tot_mr ⟨ext_ei (Or.inr (Or.inr rfl)), kM_rmS o hm⟩
theorem c88_loop (hm : m < 3) (ht : t < 513) (hx : 77 ≤ x) (wf : wfT its) : ∀ (f j : Nat) (h : xv_H) (ce : Nat → Int32 × zN), j ≤ its.length → its.length - j < f → hb (its.length - j + 1) h → kM h m u ce lk rm → okTx h x c t its → tot (b88_2 F f (some (6 + 4 * m)) (some x) (Int32.ofNat j)) h (fun _ h' => ext (its.length - j) Xf0 (XaM m) h h' ∧ kM h' m u (zwr m (its.drop j) ce) lk (fset2 rm t m 2)) := by
  intro f
  induction f with
  | zero => intro j h ce h1 h2; omega
  | succ f ih =>
    intro j h ce h1 h2 g o ot
    obtain ⟨v4, d1, _, _, _, d4, _, d6⟩ := okTx_d ot
    obtain ⟨v3, _, m1, _, _⟩ := kM_d o
    unfold b88_2
    rw [nn_some, mb_mr]
    refine tot_bind d4 ?_
    by_cases hj : its.length ≤ j
    · rw [if_pos (by rw [i_le (by omega) (by omega)]; exact hj), List.drop_of_length_le hj]
      exact tot_mono (c88_end hm ht o ot) (fun _ h2 q => ⟨ext_le q.1 (by omega), q.2⟩)
    · rw [if_neg (by rw [i_le (by omega) (by omega)]; exact hj)]
      obtain ⟨y, y1, oy⟩ := okTx_it ot (j := j) (by omega)
      obtain ⟨hk, ha⟩ := wf j (by omega)
      obtain ⟨v5, _, g1, _, g3⟩ := okI_d oy
      rw [drop_cons (by omega)]
      generalize hi : its.getD j zi0 = i at *
      have ez : zwr m (i :: its.drop (j + 1)) ce = zwr m (its.drop (j + 1)) (if i.2.1 / 8 = m ∧ (i.1 = 3 ∨ i.1 = 4) then fset ce i.2.1 ((ce i.2.1).1 + 1, i.2.2.2) else ce) := (rfl)
      rw [ez]
      unfold b88_10
      rw [nn_some, mb_mr]
      refine tot_bind d1 ?_
      rw [nn_some, mb_mr]
      refine tot_bind y1 ?_
      rw [nn_some, mb_mr]
      refine tot_bind g1 (tot_bind (ok_dz (by decide)) ?_)
      rw [nn_some, mb_mr]
      refine tot_bind v3 (tot_bind (c89_eq o oy ha hm) ?_)
      have skip : ∀ (_ : ¬ (i.2.1 / 8 = m ∧ (i.1 = 3 ∨ i.1 = 4))), tot (b88_71 (b88_2 F f) F (some (6 + 4 * m)) (some x) (Int32.ofNat j)) h (fun _ h' => ext (its.length - j) Xf0 (XaM m) h h' ∧ kM h' m u (zwr m (its.drop (j + 1)) (if i.2.1 / 8 = m ∧ (i.1 = 3 ∨ i.1 = 4) then fset ce i.2.1 ((ce i.2.1).1 + 1, i.2.2.2) else ce)) lk (fset2 rm t m 2)) := by
        intro q
        rw [if_neg q]
        unfold b88_71
        rw [i_add1]
        exact tot_mono (ih (j + 1) h ce (by omega) (by omega) (hb_le g (by omega)) o ot) (fun _ h2 q => ⟨ext_le q.1 (by omega), q.2⟩)
      by_cases q : i.2.1 / 8 = m
      · have qb : (i.2.1 / 8 == m) = true := by simpa using q
        rw [qb, if_neg (by decide)]
        unfold b88_34
        rw [nn_some, mb_mr]
        refine tot_bind v5 (tot_bind (c90_eq oy hk) ?_)
        by_cases q3 : i.1 = 3 ∨ i.1 = 4
        · rw [decide_eq_true q3, if_neg (by decide), if_pos ⟨q, q3⟩]
          unfold b88_41 b88_71
          obtain ⟨nb, nb1, onb⟩ := oy.2.2.2.2 q3
          obtain ⟨xc, xc1, oxc⟩ := kM_ce o ha q
          have hsb := g.2
          rw [nn_some, mb_mr]
          refine tot_bind m1 (tot_bind ok_nw ?_)
          have E0 : ext 1 Xf0 Xa0 h (Unw h 7 0 2) := ext_nw (by decide)
          have ly : lv (Unw h 7 0 2) (Hn h) 7 := lv_Unw (by rw [SB_val]; omega)
          generalize Unw h 7 0 2 = h1 at *
          have o1 : kM h1 m u ce lk rm := kM_c E0 calm0 (fun _ _ q => q) ⟨fun q => q, fun q => q, fun q => q⟩ o
          obtain ⟨xc, xc1, oxc⟩ := kM_ce o1 ha q
          obtain ⟨_, _, m1', _, _⟩ := kM_d o1
          have oy1 := okI_c E0 calm0 oy
          obtain ⟨_, _, _, _, g3'⟩ := okI_d oy1
          obtain ⟨nb, nb1, onb⟩ := oy1.2.2.2.2 q3
          refine tot_bind m1' ?_
          rw [nn_some, mb_mr, i_mod8 _ ha]
          refine tot_bind xc1 ?_
          rw [nn_some, mb_mr]
          refine tot_bind (by rw [ok_gi oxc.1, oxc.2.1]) ?_
          rw [nn_some, mb_mr]
          refine tot_bind g3' ?_
          refine tot_mb (c2_tot (N := i.2.2.2) ly ⟨nb, nb1, onb⟩) (fun _ h2 q2 => ?_)
          obtain ⟨E2, oc2⟩ := q2
          have E02 : ext 1 Xf0 Xa0 h h2 := ext_trS (k1 := 1) (k2 := 0) E0 E2 (fun f a z => Or.inr (by rw [z]; exact Nat.le_refl _)) (fun _ z => Or.inl z)
          have o2 : kM h2 m u ce lk rm := kM_c E02 calm0 (fun _ _ q => q) ⟨fun q => q, fun q => q, fun q => q⟩ o
          rw [mb_mr]
          refine tot_bind (ok_sr o2.1.2.1.1 (i_nn (by omega)) (by rw [i_nat (by omega), o2.1.2.1.2]; omega) (fun b e => by cases e; exact oc2.1)) ?_
          rw [i_nat (by omega), i_add1]
          have o3 := kM_ceS o2 ha q oc2
          have E3 : ext 1 Xf0 (XaM m) h (Uer h2 (7 + 4 * m) (i.2.1 % 8) (some (Hn h))) := ext_erS (ext_any E02) (Or.inl (Or.inl rfl))
          generalize Uer h2 (7 + 4 * m) (i.2.1 % 8) (some (Hn h)) = h3 at *
          refine tot_mono (ih (j + 1) h3 _ (by omega) (by omega) (hb_ext (K := 1) E3 (hb_le g (by omega))) o3 (okTx_M hm hx E3 ot)) (fun _ h4 q4 => ?_)
          exact ⟨ext_le (ext_trans E3 q4.1) (by omega), q4.2⟩
        · rw [decide_eq_false q3, if_pos (by decide)]
          exact skip (fun z => q3 z.2)
      · have qb : (i.2.1 / 8 == m) = false := by simpa using q
        rw [qb, if_pos (by decide)]
        exact skip (fun z => q z.1)
theorem c88_tot (hF : 1000 ≤ F) (hm : m < 3) (ht : t < 513) (hx : 77 ≤ x) (wf : wfT its) (g : hb 10 h) (o : kM h m u ce lk rm) (ot : okTx h x c t its) : tot (m88 F (6 + 4 * m) (some x)) h (fun _ h' => ext 6 Xf0 (XaM m) h h' ∧ kM h' m u (zwr m its ce) lk (fset2 rm t m 2)) := by
  unfold m88 b88_0
  have h6 := ot.2.2.2.1
  exact tot_mono (c88_loop hm ht hx wf F 0 h ce (by omega) (by omega) (hb_le g (by omega)) o ot) (fun _ h2 q => ⟨ext_le q.1 (by omega), q.2⟩)
/-- canTake -/
theorem c95_loop (hm : m < 3) (wf : wfT its) (hlk : ∀ a, lk a < 1000) (o : kM h m u ce lk rm) (ot : okTx h x c t its) : ∀ (f j : Nat), j ≤ its.length → its.length - j < f → b95_2 F f (some (6 + 4 * m)) (some x) (Int32.ofNat j) h = some (b2i (zcan (its.drop j) m lk ce), h) := by
  obtain ⟨v4, d1, _, _, _, d4, _, d6⟩ := okTx_d ot
  obtain ⟨v3, _, m1, m2, _⟩ := kM_d o
  intro f
  induction f with
  | zero => intro j h1 h2; omega
  | succ f ih =>
    intro j h1 h2
    unfold b95_2
    rw [nn_some, mb_mr, mb_some d4]
    by_cases hj : its.length ≤ j
    · rw [if_pos (by rw [i_le (by omega) (by omega)]; exact hj), List.drop_of_length_le hj]; rfl
    · rw [if_neg (by rw [i_le (by omega) (by omega)]; exact hj)]
      obtain ⟨y, y1, oy⟩ := okTx_it ot (j := j) (by omega)
      obtain ⟨hk, ha⟩ := wf j (by omega)
      obtain ⟨v5, _, g1, _, g3⟩ := okI_d oy
      rw [drop_cons (by omega)]
      generalize hi : its.getD j zi0 = i at *
      have ez : zcan (i :: its.drop (j + 1)) m lk ce = ((!(i.2.1 / 8 == m) || (lk i.2.1 == 0 && zfits i (ce i.2.1))) && zcan (its.drop (j + 1)) m lk ce) := (rfl)
      rw [ez]
      unfold b95_10
      rw [nn_some, mb_mr, mb_some d1, nn_some, mb_mr, mb_some y1, nn_some, mb_mr, mb_some g1, mb_some (ok_dz (by decide)), nn_some, mb_mr, mb_some v3, mb_some (c89_eq o oy ha hm)]
      by_cases q : i.2.1 / 8 = m
      · have qb : (i.2.1 / 8 == m) = true := by simpa using q
        rw [qb, if_neg (by decide)]
        unfold b95_34
        rw [nn_some, mb_mr, mb_some m2, nn_some, mb_mr, i_mod8 _ ha, mb_some (kM_lk o ha q)]
        by_cases q0 : lk i.2.1 = 0
        · have q0b : (lk i.2.1 == 0) = true := by simpa using q0
          rw [if_neg (fun z => z (by rw [q0]; rfl)), q0b]
          unfold b95_44
          obtain ⟨xc, xc1, oxc⟩ := kM_ce o ha q
          rw [nn_some, mb_mr, mb_some m1, nn_some, mb_mr, mb_some xc1, nn_some, mb_mr, mb_some v5, mb_some (c96_eq oy hk oxc)]
          cases zfits i (ce i.2.1)
          · rfl
          · rw [if_pos (by decide)]
            unfold b95_60
            rw [i_add1, ih (j + 1) (by omega) (by omega)]
            rfl
        · have q0b : (lk i.2.1 == 0) = false := by simpa using q0
          have := hlk i.2.1
          rw [if_pos (i_ne0 (by omega) q0), q0b]; rfl
      · have qb : (i.2.1 / 8 == m) = false := by simpa using q
        rw [qb, if_pos (by decide)]
        unfold b95_60
        rw [i_add1, ih (j + 1) (by omega) (by omega)]
        rfl
theorem c95_eq (hF : 1000 ≤ F) (hm : m < 3) (wf : wfT its) (hlk : ∀ a, lk a < 1000) (o : kM h m u ce lk rm) (ot : okTx h x c t its) : m95 F (6 + 4 * m) (some x) h = some (b2i (zcan its m lk ce), h) := by
  unfold m95 b95_0
  have h6 := ot.2.2.2.1
  exact c95_loop hm wf hlk o ot F 0 (by omega) (by omega)
/-- commit -/
theorem c87_tot (hF : 1000 ≤ F) (hm : m < 3) (ht : t < 513) (hx : 77 ≤ x) (wf : wfT its) (g : hb 10 h) (o : kM h m u ce lk rm) (ot : okTx h x c t its) : tot (m87 F (6 + 4 * m) (some x)) h (fun _ h' => ext 6 Xf0 (XaM m) h h' ∧ kM h' m u (if rm t m = 1 then zwr m its ce else ce) (if rm t m = 1 then zlo m 0 its lk else lk) (if rm t m = 1 then fset2 rm t m 2 else rm)) := by
  obtain ⟨v3, _, _, _, m3, _⟩ := kM_d o
  obtain ⟨_, _, _, _, _, _, d5, _⟩ := okTx_d ot
  unfold m87 b87_0
  rw [nn_some, mb_mr]
  refine tot_bind m3 ?_
  rw [nn_some, mb_mr]
  refine tot_bind d5 ?_
  rw [nn_some, mb_mr]
  refine tot_bind (kM_rm o ht) ?_
  by_cases q : rm t m = 1
  · rw [if_neg (fun z => z q), if_pos q, if_pos q, if_pos q]
    unfold b87_13
    rw [nn_some, mb_mr]
    refine tot_bind v3 (tot_mb (c88_tot hF hm ht hx wf g o ot) (fun _ h1 q1 => ?_))
    obtain ⟨E1, o1⟩ := q1
    refine tot_bind (kM_d o1).1 (tot_mb (c91_tot (w := 0) hF hm hx wf o1 (okTx_M hm hx E1 ot)) (fun _ h2 q2 => ?_))
    exact tot_mr ⟨ext_trans (k1 := 6) (k2 := 0) E1 q2.1, q2.2⟩
  · rw [if_pos q, if_neg q, if_neg q, if_neg q]
    exact tot_mr ⟨ext_le ext_refl (by decide), o⟩
/-- abort -/
theorem c92_tot (hF : 1000 ≤ F) (hm : m < 3) (ht : t < 513) (hx : 77 ≤ x) (wf : wfT its) (o : kM h m u ce lk rm) (ot : okTx h x c t its) : tot (m92 F (6 + 4 * m) (some x)) h (fun _ h' => ext 0 Xf0 (XaM m) h h' ∧ kM h' m u ce (if rm t m = 1 then zlo m 0 its lk else lk) (if rm t m = 1 ∨ rm t m = 0 then fset2 rm t m 3 else rm)) := by
  obtain ⟨v3, _, _, _, m3, _⟩ := kM_d o
  obtain ⟨_, _, _, _, _, _, d5, _⟩ := okTx_d ot
  have fin : ∀ (h1 : xv_H) (lk : Nat → Nat), ext 0 Xf0 (XaM m) h h1 → kM h1 m u ce lk rm → okTx h1 x c t its → tot (b92_30 F (some (6 + 4 * m)) (some x)) h1 (fun _ h' => ext 0 Xf0 (XaM m) h h' ∧ kM h' m u ce lk (fset2 rm t m 3)) := by
    intro h1 lk E1 o1 ot1
    obtain ⟨v3, _, _, _, m3, _⟩ := kM_d o1
    obtain ⟨_, _, _, _, _, _, d5, _⟩ := okTx_d ot1
    unfold b92_30 b92_40
    rw [nn_some, mb_mr]
    refine tot_bind m3 ?_
    rw [nn_some, mb_mr]
    refine tot_bind d5 ?_
    rw [nn_some, mb_mr]
    refine tot_bind (ok_rem o1 hm ht (by decide)) ?_
    exact tot_mr ⟨ext_eiS E1 (Or.inl (Or.inr (Or.inr rfl))), kM_rmS o1 hm⟩
  unfold m92 b92_0
  rw [nn_some, mb_mr]
  refine tot_bind m3 ?_
  rw [nn_some, mb_mr]
  refine tot_bind d5 ?_
  rw [nn_some, mb_mr]
  refine tot_bind (kM_rm o ht) ?_
  by_cases q : rm t m = 1
  · rw [if_neg (fun z => z q), if_pos q, if_pos (Or.inl q)]
    unfold b92_15
    rw [nn_some, mb_mr]
    refine tot_bind v3 (tot_mb (c91_tot (w := 0) hF hm hx wf o ot) (fun _ h2 q2 => ?_))
    unfold b92_21
    rw [if_pos q]
    exact fin h2 _ q2.1 q2.2 (okTx_M hm hx q2.1 ot)
  · rw [if_pos q, if_neg q]
    unfold b92_21 b92_26
    rw [if_neg q]
    by_cases q0 : rm t m = 0
    · rw [if_neg (fun z => z q0), if_pos (Or.inr q0)]
      exact fin h lk ext_refl o ot
    · rw [if_pos q0, if_neg (fun z => z.elim q q0)]
      exact tot_mr ⟨ext_refl, o⟩
/-- lowestInDoubt -/
theorem c107_loop (o : kM h m u ce lk rm) {b : Nat} (hb : b < 513) : ∀ (f q t : Nat), t + q = b + 1 → q < f → b107_2 F f (some (6 + 4 * m)) (Int32.ofNat b) (Int32.ofNat t) h = some (Int32.ofNat (zlow rm m q t), h) := by
  obtain ⟨v3, _, _, _, m3, _⟩ := kM_d o
  intro f
  induction f with
  | zero => intro q t h1 h2; omega
  | succ f ih =>
    intro q t h1 h2
    unfold b107_2
    cases q with
    | zero =>
      rw [if_pos (by rw [i_lt (by omega) (by omega)]; omega)]; rfl
    | succ q =>
      rw [if_neg (by rw [i_lt (by omega) (by omega)]; omega)]
      unfold b107_7
      rw [nn_some, mb_mr, mb_some m3, nn_some, mb_mr, mb_some (kM_rm o (by omega))]
      rw [zlow]
      by_cases e : rm t m = 1
      · rw [if_neg (fun z => z e), if_pos e]; rfl
      · rw [if_pos e, if_neg e]
        unfold b107_19
        rw [i_add1, ih q (t + 1) (by omega) (by omega)]
theorem c107_eq (hF : 1000 ≤ F) (o : kM h m u ce lk rm) {b : Nat} (hb : b < 513) : m107 F (6 + 4 * m) (Int32.ofNat b) h = some (Int32.ofNat (zlow rm m b 1), h) := by
  unfold m107 b107_0
  exact c107_loop o hb F b 1 (by omega) (by omega)
end MEM3
