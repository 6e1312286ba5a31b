/-! What a memory node does: loops over items. -/
theorem drop_cons {its : List zI} {i : Nat} (h : i < its.length) : its.drop i = its.getD i zi0 :: its.drop (i + 1) := by
  rw [List.drop_eq_getElem_cons h, List.getD_eq_getElem?_getD, List.getElem?_eq_getElem h]; rfl
section MEM2
variable {h h1 h2 : xv_H} {F f x y c t m n K : Nat} {u : Bool} {ce : Nat → Int32 × zN} {lk : Nat → Nat} {rm : Nat → Nat → Int32} {its : List zI} {i : zI} {v : Int32 × zN} {an : Nat → Bool}
/-- hasSeveralParticipants -/
theorem c79_eq (o : okTx h x c t its) (hF : 1000 ≤ F) : m79 F x h = some (b2i (sev its), h) := by
  obtain ⟨_, _, d2, _⟩ := okTx_d o
  have t0 := okTx_tp o (m := 0) (by decide)
  have t1 := okTx_tp o (m := 1) (by decide)
  have t2 := okTx_tp o (m := 2) (by decide)
  obtain ⟨F', rfl⟩ : ∃ k, F = k + 4 := ⟨F - 4, by omega⟩
  have st : ∀ (n p : Int32) (q j : Nat), lb (x + 2) (Int32.ofNat j) h = some (b2i (tp its j), h) → j < 3 → b79_4 (F' + 4) (q + 1) (some x) n (Int32.ofNat j) h = b79_4 (F' + 4) q (some x) (if tp its j then n + 1 else n) (Int32.ofNat j + 1) h := by
    intro n p q j tj hj
    conv => lhs; unfold b79_4
    rw [if_neg (fun z => by rw [show (3 : Int32) = Int32.ofNat 3 from rfl, i_le (by decide) (by omega)] at z; omega)]
    unfold b79_9
    rw [nn_some, mb_mr, mb_some d2, nn_some, mb_mr, mb_some tj]
    cases tp its j
    · rfl
    · rfl
  unfold m79 b79_0
  rw [show (0 : Int32) = Int32.ofNat 0 from rfl, st _ 0 _ 0 t0 (by decide), show Int32.ofNat 0 + 1 = Int32.ofNat 1 from rfl, st _ 0 _ 1 t1 (by decide), show Int32.ofNat 1 + 1 = Int32.ofNat 2 from rfl, st _ 0 _ 2 t2 (by decide), show Int32.ofNat 2 + 1 = Int32.ofNat 3 from rfl]
  unfold b79_4
  rw [if_pos (by decide)]
  unfold sev
  cases tp its 0 <;> cases tp its 1 <;> cases tp its 2 <;> rfl
/-- isAnsweredByAll -/
theorem c82_eq (o : okTx h x c t its) (oa : okAn h x an) (hF : 1000 ≤ F) : m82 F x h = some (b2i ((!(tp its 0) || an 0) && (!(tp its 1) || an 1) && (!(tp its 2) || an 2)), h) := by
  obtain ⟨_, _, d2, d3, _⟩ := okTx_d o
  have t0 := okTx_tp o (m := 0) (by decide)
  have t1 := okTx_tp o (m := 1) (by decide)
  have t2 := okTx_tp o (m := 2) (by decide)
  have a0 := okTx_an o oa (m := 0) (by decide)
  have a1 := okTx_an o oa (m := 1) (by decide)
  have a2 := okTx_an o oa (m := 2) (by decide)
  obtain ⟨F', rfl⟩ : ∃ k, F = k + 4 := ⟨F - 4, by omega⟩
  have st : ∀ (q j : Nat), lb (x + 2) (Int32.ofNat j) h = some (b2i (tp its j), h) → lb (x + 3) (Int32.ofNat j) h = some (b2i (an j), h) → j < 3 → b82_2 (F' + 4) (q + 1) (some x) (Int32.ofNat j) h = if (!(tp its j) || an j) then b82_2 (F' + 4) q (some x) (Int32.ofNat j + 1) h else some (0, h) := by
    intro q j tj aj hj
    conv => lhs; unfold b82_2
    rw [if_neg (fun z => by rw [show (3 : Int32) = Int32.ofNat 3 from rfl, i_le (by decide) (by omega)] at z; omega)]
    unfold b82_7
    rw [nn_some, mb_mr, mb_some d2, nn_some, mb_mr, mb_some tj]
    cases tp its j
    · rfl
    · rw [if_neg (by decide)]
      unfold b82_16
      rw [nn_some, mb_mr, mb_some d3, nn_some, mb_mr, mb_some aj]
      cases an j
      · rfl
      · rfl
  unfold m82 b82_0
  rw [show (0 : Int32) = Int32.ofNat 0 from rfl, st _ 0 t0 a0 (by decide), show Int32.ofNat 0 + 1 = Int32.ofNat 1 from rfl, st _ 1 t1 a1 (by decide), show Int32.ofNat 1 + 1 = Int32.ofNat 2 from rfl, st _ 2 t2 a2 (by decide), show Int32.ofNat 2 + 1 = Int32.ofNat 3 from rfl]
  unfold b82_2
  have e3 : (3 : Int32) ≤ Int32.ofNat 3 := by decide
  rw [if_pos e3]
  cases (!(tp its 0) || an 0)
  · rfl
  · cases (!(tp its 1) || an 1)
    · rfl
    · cases (!(tp its 2) || an 2)
      · rfl
      · rfl
theorem okTx_M (hm : m < 3) (hx : 77 ≤ x) (e : ext K Xf0 (XaM m) h h1) (o : okTx h x c t its) : okTx h1 x c t its :=
  okTx_c e (calmM hm) (fun _ _ _ q => q) (by unfold XaM; omega) (by unfold XaM; omega) o
/-- a lock is set -/
theorem kM_lkS {a w : Nat} (o : kM h m u ce lk rm) (ha : a < 24) (hm : a / 8 = m) : kM (Uei h (8 + 4 * m) (a % 8) (Int32.ofNat w)) m u ce (fset lk a w) rm := by
  obtain ⟨⟨p1, ⟨p2, p3⟩, ⟨p4, p5⟩, ⟨p6, p7⟩⟩, q, r1, r2, r3⟩ := o
  have E : ext 0 Xf0 (fun b => b = 8 + 4 * m) h (Uei h (8 + 4 * m) (a % 8) (Int32.ofNat w)) := ext_ei rfl
  have cm : calm h Xf0 (fun b => b = 8 + 4 * m) := ⟨fun _ _ _ _ q => q, fun b i _ q => by unfold im at i; omega⟩
  refine ⟨⟨lv_ext E p1, ⟨lv_ext E p2, p3⟩, ⟨lv_ext E p4, p5⟩, ⟨lv_ext E p6, p7⟩⟩, q, fun i hi => ?_, fun i hi => ?_, fun i hi => ?_⟩
  · obtain ⟨x, x1, x2⟩ := r1 i hi
    exact ⟨x, by rw [Her_Uei]; exact x1, okCell_c E cm x2⟩
  · rw [Hei_Uei, fset_eq]
    by_cases e : i = a % 8
    · rw [if_pos ⟨rfl, e⟩, if_pos (by omega)]
    · rw [if_neg (fun z => e z.2), if_neg (by omega)]
      exact r2 i hi
  · rw [Hei_Uei, if_neg (by omega)]
    exact r3 i hi
/-- setLocks -/
theorem c91_loop {w : Nat} (hm : m < 3) (hx : 77 ≤ x) (wf : wfT its) : ∀ (f j : Nat) (h : xv_H) (lk : Nat → Nat), j ≤ its.length → its.length - j < f → kM h m u ce lk rm → okTx h x c t its → tot (b91_2 F f (some (6 + 4 * m)) (some x) (Int32.ofNat w) (Int32.ofNat j)) h (fun _ h' => ext 0 Xf0 (XaM m) h h' ∧ kM h' m u ce (zlo m w (its.drop j) lk) rm) := by
  intro f
  induction f with
  | zero => intro j h lk h1 h2; omega
  | succ f ih =>
    intro j h lk h1 h2 o ot
    obtain ⟨v4, d1, _, _, _, d4, _, d6⟩ := okTx_d ot
    obtain ⟨v3, _, _, m2, _⟩ := kM_d o
    unfold b91_2
    rw [nn_some, mb_mr]
    refine tot_bind d4 ?_
    by_cases hj : its.length ≤ j
    · rw [if_pos (by rw [i_le (by omega) (by omega)]; exact hj), List.drop_of_length_le hj]
      exact tot_mr ⟨ext_refl, o⟩
    · rw [if_neg (by rw [i_le (by omega) (by omega)]; exact hj)]
      obtain ⟨y, y1, oy⟩ := okTx_it ot (j := j) (by omega)
      obtain ⟨hk, ha⟩ := wf j (by omega)
      obtain ⟨_, _, g1, _⟩ := okI_d oy
      rw [drop_cons (by omega)]
      generalize hi : its.getD j zi0 = i at *
      have ez : zlo m w (i :: its.drop (j + 1)) lk = zlo m w (its.drop (j + 1)) (if i.2.1 / 8 = m then fset lk i.2.1 w else lk) := (rfl)
      rw [ez]
      unfold b91_10
      rw [nn_some, mb_mr]
      refine tot_bind d1 ?_
      rw [nn_some, mb_mr]
      refine tot_bind y1 ?_
      rw [nn_some, mb_mr]
      refine tot_bind v3 (tot_bind (c89_eq o oy ha hm) ?_)
      by_cases q : i.2.1 / 8 = m
      · have qb : (i.2.1 / 8 == m) = true := by simpa using q
        rw [qb, if_neg (by decide), if_pos q]
        unfold b91_23 b91_41
        rw [nn_some, mb_mr]
        refine tot_bind m2 ?_
        rw [nn_some, mb_mr]
        refine tot_bind d1 ?_
        rw [nn_some, mb_mr]
        refine tot_bind y1 ?_
        rw [nn_some, mb_mr]
        refine tot_bind g1 (tot_bind (ok_dz (by decide)) ?_)
        rw [nn_some, mb_mr, i_mod8 _ ha]
        refine tot_bind (ok_si o.1.2.2.1.1 (i_nn (by omega)) (by rw [i_nat (by omega), o.1.2.2.1.2]; omega)) ?_
        rw [i_nat (by omega), i_add1]
        have o1 := kM_lkS (w := w) o ha q
        have E1 : ext 0 Xf0 (XaM m) h (Uei h (8 + 4 * m) (i.2.1 % 8) (Int32.ofNat w)) := ext_ei (Or.inr (Or.inl rfl))
        generalize Uei h (8 + 4 * m) (i.2.1 % 8) (Int32.ofNat w) = h1 at *
        refine tot_mono (ih (j + 1) h1 _ (by omega) (by omega) o1 (okTx_M hm hx E1 ot)) (fun _ h2 q2 => ?_)
        exact ⟨ext_trans (k1 := 0) (k2 := 0) E1 q2.1, q2.2⟩
      · have qb : (i.2.1 / 8 == m) = false := by simpa using q
        rw [qb, if_pos (by decide), if_neg q]
        unfold b91_41
        rw [i_add1]
        exact ih (j + 1) h lk (by omega) (by omega) o ot
theorem c91_tot {w : Nat} (hF : 1000 ≤ F) (hm : m < 3) (hx : 77 ≤ x) (wf : wfT its) (o : kM h m u ce lk rm) (ot : okTx h x c t its) : tot (m91 F (6 + 4 * m) (some x) (Int32.ofNat w)) h (fun _ h' => ext 0 Xf0 (XaM m) h h' ∧ kM h' m u ce (zlo m w its lk) rm) := by
  unfold m91 b91_0
  have := ot.2.2.2.1
  exact c91_loop hm hx wf F 0 h lk (by omega) (by omega) o ot
/-- a cell is set -/
theorem kM_ceS {a : Nat} (o : kM h m u ce lk rm) (ha : a < 24) (hm : a / 8 = m) (oc : okCell h x v) : kM (Uer h (7 + 4 * m) (a % 8) (some x)) m u (fset ce a v) lk rm := by
  obtain ⟨⟨p1, ⟨p2, p3⟩, ⟨p4, p5⟩, ⟨p6, p7⟩⟩, q, r1, r2, r3⟩ := o
  have E : ext 0 Xf0 (fun b => b = 7 + 4 * m) h (Uer h (7 + 4 * m) (a % 8) (some x)) := ext_er rfl
  have cm : calm h Xf0 (fun b => b = 7 + 4 * m) := ⟨fun _ _ _ _ q => q, fun b i _ q => by unfold im at i; omega⟩
  refine ⟨⟨lv_ext E p1, ⟨lv_ext E p2, p3⟩, ⟨lv_ext E p4, p5⟩, ⟨lv_ext E p6, p7⟩⟩, q, fun i hi => ?_, fun i hi => ?_, fun i hi => ?_⟩
  · rw [Her_Uer, fset_eq]
    by_cases e : i = a % 8
    · rw [if_pos ⟨rfl, e⟩, if_pos (by omega)]
      exact ⟨x, rfl, okCell_c E cm oc⟩
    · rw [if_neg (fun z => e z.2), if_neg (by omega)]
      obtain ⟨x, x1, x2⟩ := r1 i hi
      exact ⟨x, x1, okCell_c E cm x2⟩
  · rw [Hei_Uer]
    exact r2 i hi
  · rw [Hei_Uer]
    exact r3 i hi
/-- what is remembered is set -/
theorem kM_rmS {w : Int32} (o : kM h m u ce lk rm) (hm : m < 3) : kM (Uei h (9 + 4 * m) t w) m u ce lk (fset2 rm t m w) := by
  obtain ⟨⟨p1, ⟨p2, p3⟩, ⟨p4, p5⟩, ⟨p6, p7⟩⟩, q, r1, r2, r3⟩ := o
  have E : ext 0 Xf0 (fun b => b = 9 + 4 * m) h (Uei h (9 + 4 * m) t w) := ext_ei rfl
  have cm : calm h Xf0 (fun b => b = 9 + 4 * m) := ⟨fun _ _ _ _ q => q, fun b i _ q => by unfold im at i; omega⟩
  refine ⟨⟨lv_ext E p1, ⟨lv_ext E p2, p3⟩, ⟨lv_ext E p4, p5⟩, ⟨lv_ext E p6, p7⟩⟩, q, fun i hi => ?_, fun i hi => ?_, fun i hi => ?_⟩
  · obtain ⟨x, x1, x2⟩ := r1 i hi
    exact ⟨x, by rw [Her_Uei]; exact x1, okCell_c E cm x2⟩
  · rw [Hei_Uei, if_neg (by omega)]
    exact r2 i hi
  · rw [Hei_Uei]
    show _ = if i = t ∧ m = m then w else rm i m
    by_cases e : i = t
    · rw [if_pos ⟨rfl, e⟩, if_pos ⟨e, rfl⟩]
    · rw [if_neg (fun z => e z.2), if_neg (fun z => e z.1)]
      exact r3 i hi
end MEM2
