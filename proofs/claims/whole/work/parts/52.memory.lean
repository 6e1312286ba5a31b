/-! A memory node on the heap; what it does. -/
def isK (k : Int32) : Prop := k = 1 ∨ k = 2 ∨ k = 3 ∨ k = 4
def wfT (its : List zI) : Prop := ∀ j, j < its.length → isK (its.getD j zi0).1 ∧ (its.getD j zi0).2.1 < 24
def kM (h : xv_H) (m : Nat) (u : Bool) (ce : Nat → Int32 × zN) (lk : Nat → Nat) (rm : Nat → Nat → Int32) : Prop :=
  (lv h (6 + 4 * m) 3 ∧ (lv h (7 + 4 * m) 108 ∧ Hl h (7 + 4 * m) = 8) ∧ (lv h (8 + 4 * m) 100 ∧ Hl h (8 + 4 * m) = 8) ∧ (lv h (9 + 4 * m) 101 ∧ Hl h (9 + 4 * m) = 513)) ∧ (Hfi h 300 (6 + 4 * m) = Int32.ofNat m ∧ Hfr h 301 (6 + 4 * m) = some (7 + 4 * m) ∧ Hfr h 302 (6 + 4 * m) = some (8 + 4 * m) ∧ Hfr h 303 (6 + 4 * m) = some (9 + 4 * m) ∧ Hfi h 304 (6 + 4 * m) = b2i u) ∧ (∀ i, i < 8 → ∃ x, Her h (7 + 4 * m) i = some x ∧ okCell h x (ce (8 * m + i))) ∧ (∀ i, i < 8 → Hei h (8 + 4 * m) i = Int32.ofNat (lk (8 * m + i))) ∧ (∀ t, t < 513 → Hei h (9 + 4 * m) t = rm t m)
def XaM (m : Nat) : Nat → Prop := fun a => a = 7 + 4 * m ∨ a = 8 + 4 * m ∨ a = 9 + 4 * m
theorem K_eq {k : Int32} {j : Nat} (hk : isK k) (hj : 1 ≤ j ∧ j ≤ 4) : (some (xv_SB + 6 + k.toNatClampNeg) = some (xv_SB + (j + 6))) ↔ k = Int32.ofNat j := by
  have : j = 1 ∨ j = 2 ∨ j = 3 ∨ j = 4 := by omega
  rcases hk with rfl | rfl | rfl | rfl <;> rcases this with rfl | rfl | rfl | rfl <;> decide
theorem K_cq {h : xv_H} {k : Int32} {q : Nat} (hk : isK k) (hq : 3 ≤ q) : cq (some (xv_SB + 6 + k.toNatClampNeg)) (some (xv_SB + q)) h = some ((), h) := by
  have : xv_SB + 6 + k.toNatClampNeg = xv_SB + (6 + k.toNatClampNeg) := by omega
  rw [this]
  exact ok_cqV (by omega) hq
section MEM
variable {h h1 h2 : xv_H} {F f x y c t m n K : Nat} {u : Bool} {ce : Nat → Int32 × zN} {lk : Nat → Nat} {rm : Nat → Nat → Int32} {its : List zI} {i : zI} {v : Int32 × zN} {an : Nat → Bool} {Xf : Nat → Nat → Prop} {Xa : Nat → Prop}
theorem calmM (hm : m < 3) : calm h Xf0 (XaM m) := ⟨fun _ _ _ _ q => q, fun a i _ q => by unfold im at i; unfold XaM at q; omega⟩
theorem kM_c (ex : ext K Xf Xa h h1) (cm : calm h Xf Xa) (hf : ∀ f, f < 400 → ¬ Xf f (6 + 4 * m)) (ha : ¬ Xa (7 + 4 * m) ∧ ¬ Xa (8 + 4 * m) ∧ ¬ Xa (9 + 4 * m)) (o : kM h m u ce lk rm) : kM h1 m u ce lk rm := by
  obtain ⟨⟨p1, ⟨p2, p3⟩, ⟨p4, p5⟩, ⟨p6, p7⟩⟩, ⟨q1, q2, q3, q4, q5⟩, r1, r2, r3⟩ := o
  have g : ∀ f, f < 400 → Hfr h1 f (6 + 4 * m) = Hfr h f (6 + 4 * m) ∧ Hfi h1 f (6 + 4 * m) = Hfi h f (6 + 4 * m) := fun f f1 => ex.2.2.1 f _ p1.1 (hf f f1)
  refine ⟨⟨lv_ext ex p1, ⟨lv_ext ex p2, (ex.2.1 _ p2.1).2.trans p3⟩, ⟨lv_ext ex p4, (ex.2.1 _ p4.1).2.trans p5⟩, ⟨lv_ext ex p6, (ex.2.1 _ p6.1).2.trans p7⟩⟩, ⟨(g 300 (by decide)).2.trans q1, (g 301 (by decide)).1.trans q2, (g 302 (by decide)).1.trans q3, (g 303 (by decide)).1.trans q4, (g 304 (by decide)).2.trans q5⟩, fun i hi => ?_, fun i hi => ?_, fun i hi => ?_⟩
  · obtain ⟨x, x1, x2⟩ := r1 i hi
    exact ⟨x, (ex.2.2.2 _ i p2.1 ha.1).1.trans x1, okCell_c ex cm x2⟩
  · exact (ex.2.2.2 _ i p4.1 ha.2.1).2.1.trans (r2 i hi)
  · exact (ex.2.2.2 _ i p6.1 ha.2.2).2.1.trans (r3 i hi)
theorem okTx_d (o : okTx h x c t its) : vc 4 x h = some ((), h) ∧ gr 401 x h = some (some (x + 1), h) ∧ gr 402 x h = some (some (x + 2), h) ∧ gr 403 x h = some (some (x + 3), h) ∧ gi 400 x h = some (Int32.ofNat c, h) ∧ gi 404 x h = some (Int32.ofNat its.length, h) ∧ gi 405 x h = some (Int32.ofNat t, h) ∧ its.length ≤ 6 := by
  obtain ⟨⟨p1, ⟨p2, p3⟩, ⟨p4, p5⟩, ⟨p6, p7⟩⟩, ⟨q1, q2, q3⟩, ⟨r1, r2, r3⟩, s1, s2, s3⟩ := o
  exact ⟨ok_vc p1, by rw [ok_gr p1, q1], by rw [ok_gr p1, q2], by rw [ok_gr p1, q3], by rw [ok_gi p1, r1], by rw [ok_gi p1, r2], by rw [ok_gi p1, r3], s1⟩
theorem okTx_it (o : okTx h x c t its) {j : Nat} (hj : j < its.length) : ∃ y, lr 107 (x + 1) (Int32.ofNat j) h = some (some y, h) ∧ okI h y (its.getD j zi0) := by
  obtain ⟨⟨p1, ⟨p2, p3⟩, ⟨p4, p5⟩, ⟨p6, p7⟩⟩, ⟨q1, q2, q3⟩, ⟨r1, r2, r3⟩, s1, s2, s3⟩ := o
  obtain ⟨y, y1, y2⟩ := s2 j hj
  exact ⟨y, by rw [ok_lr p2 (i_nn (by omega)) (by rw [i_nat (by omega), p3]; omega), i_nat (by omega), y1], y2⟩
theorem okTx_tp (o : okTx h x c t its) (hm : m < 3) : lb (x + 2) (Int32.ofNat m) h = some (b2i (tp its m), h) := by
  obtain ⟨⟨p1, ⟨p2, p3⟩, ⟨p4, p5⟩, ⟨p6, p7⟩⟩, ⟨q1, q2, q3⟩, ⟨r1, r2, r3⟩, s1, s2, s3⟩ := o
  rw [ok_lz p4 (i_nn (by omega)) (by rw [i_nat (by omega), p5]; exact hm), i_nat (by omega), s3 m hm]
theorem okTx_an (o : okTx h x c t its) (oa : okAn h x an) (hm : m < 3) : lb (x + 3) (Int32.ofNat m) h = some (b2i (an m), h) := by
  obtain ⟨⟨p1, ⟨p2, p3⟩, ⟨p4, p5⟩, ⟨p6, p7⟩⟩, _⟩ := o
  rw [ok_lz p6 (i_nn (by omega)) (by rw [i_nat (by omega), p7]; exact hm), i_nat (by omega), oa m hm]
theorem okI_d (o : okI h y i) : vc 5 y h = some ((), h) ∧ gr 500 y h = some (some (xv_SB + 6 + i.1.toNatClampNeg), h) ∧ gi 501 y h = some (Int32.ofNat i.2.1, h) ∧ gi 502 y h = some (i.2.2.1, h) ∧ gr 503 y h = some (Hfr h 503 y, h) := by
  obtain ⟨p1, p2, p3, p4, p5⟩ := o
  exact ⟨ok_vc p1, by rw [ok_gr p1, p2], by rw [ok_gi p1, p3], by rw [ok_gi p1, p4], by rw [ok_gr p1]⟩
theorem kM_d (o : kM h m u ce lk rm) : vc 3 (6 + 4 * m) h = some ((), h) ∧ gi 300 (6 + 4 * m) h = some (Int32.ofNat m, h) ∧ gr 301 (6 + 4 * m) h = some (some (7 + 4 * m), h) ∧ gr 302 (6 + 4 * m) h = some (some (8 + 4 * m), h) ∧ gr 303 (6 + 4 * m) h = some (some (9 + 4 * m), h) ∧ gi 304 (6 + 4 * m) h = some (b2i u, h) := by
  obtain ⟨⟨p1, ⟨p2, p3⟩, ⟨p4, p5⟩, ⟨p6, p7⟩⟩, ⟨q1, q2, q3, q4, q5⟩, r1, r2, r3⟩ := o
  exact ⟨ok_vc p1, by rw [ok_gi p1, q1], by rw [ok_gr p1, q2], by rw [ok_gr p1, q3], by rw [ok_gr p1, q4], by rw [ok_gi p1, q5]⟩
theorem kM_ce (o : kM h m u ce lk rm) {a : Nat} (ha : a < 24) (hm : a / 8 = m) : ∃ x, lr 108 (7 + 4 * m) (Int32.ofNat (a % 8)) h = some (some x, h) ∧ okCell h x (ce a) := by
  obtain ⟨⟨p1, ⟨p2, p3⟩, ⟨p4, p5⟩, ⟨p6, p7⟩⟩, ⟨q1, q2, q3, q4, q5⟩, r1, r2, r3⟩ := o
  obtain ⟨x, x1, x2⟩ := r1 (a % 8) (by omega)
  refine ⟨x, by rw [ok_lr p2 (i_nn (by omega)) (by rw [i_nat (by omega), p3]; omega), i_nat (by omega), x1], ?_⟩
  have e : 8 * m + a % 8 = a := by omega
  rw [e] at x2
  exact x2
theorem kM_lk (o : kM h m u ce lk rm) {a : Nat} (ha : a < 24) (hm : a / 8 = m) : li (8 + 4 * m) (Int32.ofNat (a % 8)) h = some (Int32.ofNat (lk a), h) := by
  obtain ⟨⟨p1, ⟨p2, p3⟩, ⟨p4, p5⟩, ⟨p6, p7⟩⟩, ⟨q1, q2, q3, q4, q5⟩, r1, r2, r3⟩ := o
  rw [ok_li p4 (i_nn (by omega)) (by rw [i_nat (by omega), p5]; omega), i_nat (by omega), r2 _ (by omega), show 8 * m + a % 8 = a by omega]
theorem kM_rm (o : kM h m u ce lk rm) (ht : t < 513) : lb (9 + 4 * m) (Int32.ofNat t) h = some (rm t m, h) := by
  obtain ⟨⟨p1, ⟨p2, p3⟩, ⟨p4, p5⟩, ⟨p6, p7⟩⟩, ⟨q1, q2, q3, q4, q5⟩, r1, r2, r3⟩ := o
  rw [ok_lb p6 (i_nn (by omega)) (by rw [i_nat (by omega), p7]; omega), i_nat (by omega), r3 _ ht]
/-- isHere -/
theorem c89_eq (o : kM h m u ce lk rm) (oi : okI h y i) (ha : i.2.1 < 24) (hm : m < 3) : m89 F (6 + 4 * m) (some y) h = some (b2i (i.2.1 / 8 == m), h) := by
  obtain ⟨_, d0, _⟩ := kM_d o
  obtain ⟨_, _, d1, _⟩ := okI_d oi
  unfold m89 b89_0
  rw [nn_some, mb_mr, mb_some d1, mb_some (ok_dz (by decide)), nn_some, mb_mr, mb_some d0, i_div8 _ ha]
  by_cases q : i.2.1 / 8 = m
  · rw [if_neg (fun z => z (by rw [q]))]
    have : (i.2.1 / 8 == m) = true := by simpa using q
    rw [this]; rfl
  · have e : ¬ Int32.ofNat (i.2.1 / 8) = Int32.ofNat m := fun z => q ((i_eq (by omega) (by omega)).mp z)
    rw [if_pos e]
    have : (i.2.1 / 8 == m) = false := by simpa using q
    rw [this]; rfl
/-- changes -/
theorem c90_eq (oi : okI h y i) (hk : isK i.1) : m90 F y h = some (b2i (decide (i.1 = 3 ∨ i.1 = 4)), h) := by
  obtain ⟨_, d0, _⟩ := okI_d oi
  unfold m90 b90_0
  rw [nn_some, mb_mr, mb_some d0, mb_some (K_cq hk (by decide))]
  have e3 := K_eq (j := 3) hk (by decide)
  have e4 := K_eq (j := 4) hk (by decide)
  have w3 : Int32.ofNat 3 = 3 := by decide
  have w4 : Int32.ofNat 4 = 4 := by decide
  rw [w3] at e3
  rw [w4] at e4
  by_cases q3 : i.1 = 3
  · rw [if_pos (e3.mpr q3), decide_eq_true (Or.inl q3)]; rfl
  · rw [if_neg (fun z => q3 (e3.mp z))]
    unfold b90_10
    rw [nn_some, mb_mr, mb_some d0, mb_some (K_cq hk (by decide))]
    by_cases q4 : i.1 = 4
    · rw [if_neg (fun z => z (e4.mpr q4)), decide_eq_true (Or.inr q4)]; rfl
    · rw [if_pos (fun z => q4 (e4.mp z)), decide_eq_false (fun z => z.elim q3 q4)]; rfl
/-- fits -/
theorem c96_eq (oi : okI h y i) (hk : isK i.1) (oc : okCell h x v) : m96 F y (some x) h = some (b2i (zfits i v), h) := by
  obtain ⟨_, d0, d1, d2, _⟩ := okI_d oi
  obtain ⟨nb, r1, r2, on, v6⟩ := cell_d oc
  obtain ⟨kk, ii, ⟨lb, g6⟩, ⟨g0, _⟩, _⟩ := okN_d on
  have e1 := K_eq (j := 1) hk (by decide)
  have e4 := K_eq (j := 4) hk (by decide)
  have w1 : Int32.ofNat 1 = 1 := by decide
  have w4 : Int32.ofNat 4 = 4 := by decide
  rw [w1] at e1
  rw [w4] at e4
  unfold m96 b96_0
  rw [nn_some, mb_mr, mb_some d0, mb_some (K_cq hk (by decide))]
  unfold zfits
  by_cases q4 : i.1 = 4
  · rw [if_neg (fun z => z (e4.mpr q4)), if_pos q4]
    unfold b96_10
    rw [nn_some, mb_mr, mb_some r1, nn_some, mb_mr, mb_some g0]
    by_cases q : v.2.1 = 0
    · rw [if_neg (fun z => z q), decide_eq_true q]; rfl
    · rw [if_pos q, decide_eq_false q]; rfl
  · rw [if_pos (fun z => q4 (e4.mp z)), if_neg q4]
    unfold b96_26
    rw [nn_some, mb_mr, mb_some d0, mb_some (K_cq hk (by decide))]
    by_cases q1 : i.1 = 1
    · rw [if_pos (e1.mpr q1), decide_eq_true (Or.inl q1)]; rfl
    · rw [if_neg (fun z => q1 (e1.mp z))]
      unfold b96_36
      rw [nn_some, mb_mr, mb_some r2, nn_some, mb_mr, mb_some d2]
      by_cases q : v.1 = i.2.2.1
      · rw [if_neg (fun z => z q), decide_eq_true (Or.inr q)]; rfl
      · rw [if_pos q, decide_eq_false (fun z => z.elim q1 q)]; rfl
theorem headD_getD (its : List zI) (d : zI) : its.headD d = its.getD 0 d := by cases its <;> rfl
/-- isRead -/
theorem c94_eq (o : okTx h x c t its) (w : wfT its) : m94 F x h = some (b2i (isRd its), h) := by
  obtain ⟨_, d1, _, _, _, d4, _, d6⟩ := okTx_d o
  unfold m94 b94_0 isRd
  rw [nn_some, mb_mr, mb_some d4]
  by_cases q : its.length = 1
  · have e : Int32.ofNat its.length = 1 := by rw [q]; rfl
    rw [if_neg (fun z => z e)]
    unfold b94_8
    obtain ⟨y, y1, oy⟩ := okTx_it o (j := 0) (by omega)
    obtain ⟨_, g0, _⟩ := okI_d oy
    have hk := (w 0 (by omega)).1
    rw [nn_some, mb_mr, mb_some d1, nn_some, mb_mr, mb_some (show lr 107 (x + 1) 0 h = _ from y1), nn_some, mb_mr, mb_some g0, mb_some (K_cq hk (by decide))]
    have e1 := K_eq (j := 1) hk (by decide)
    have w1 : Int32.ofNat 1 = 1 := by decide
    rw [w1] at e1
    rw [headD_getD]
    change (if ¬ _ then b94_27 F else b94_23 F) h = some (b2i (its.length == 1 && (its.getD 0 zi0).1 == 1), h)
    by_cases q1 : (its.getD 0 zi0).1 = 1
    · rw [if_neg (fun z => z (e1.mpr q1)), q, q1]; rfl
    · rw [if_pos (fun z => q1 (e1.mp z)), q]
      have : ((its.getD 0 zi0).1 == 1) = false := by simpa using q1
      rw [this]; rfl
  · have e : ¬ Int32.ofNat its.length = 1 := fun z => q ((i_eq (a := its.length) (b := 1) (by omega) (by omega)).mp z)
    rw [if_pos e]
    have : (its.length == 1) = false := by simpa using q
    rw [this]; rfl
end MEM
