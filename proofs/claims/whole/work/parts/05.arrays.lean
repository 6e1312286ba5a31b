/-! Arrays. -/
theorem xv_R.arr {w : xv_W} {cl : List vw_C} {rk : Nat → Bool} {h : xv_H} {H : Heap} {a j : Nat} (hR : xv_R w cl rk h H) (ha : a < h.1) (ht : h.2.2.1 a = 100 + j) : ∃ cell : Cell, H[w.1 + a]? = some cell ∧ cell.vm = .none ∧ cell.cls = w.2.2.2.2.1 j ∧ cell.slots.size = h.2.2.2.1 a ∧ ∀ i, i < h.2.2.2.1 a → cell.slots[i]? = some (xv_ev w h (100 + j) a i) := by
  obtain ⟨cell, q1, q2, q3 | q3⟩ := hR.2.2 a ha
  · exfalso
    obtain ⟨q4, -⟩ := q3
    omega
  · obtain ⟨q4, q5⟩ := q3
    rw [ht, Nat.add_sub_cancel_left] at q5
    subst q5
    exact ⟨_, q1, q2, rfl, arrV_size _ _ _, fun i hi => arrV_read _ _ hi⟩
theorem xv_R.arrV {w : xv_W} {cl : List vw_C} {rk : Nat → Bool} {h : xv_H} {H : Heap} {a j : Nat} {cell : Cell} (hR : xv_R w cl rk h H) (ha : a < h.1) (ht : h.2.2.1 a = 100 + j) (hc : H[w.1 + a]? = some cell) : cell = arrV (w.2.2.2.2.1 j) (h.2.2.2.1 a) (fun i => xv_ev w h (100 + j) a i) := by
  obtain ⟨cell', q1, q2, q3 | q3⟩ := hR.2.2 a ha
  · exfalso
    obtain ⟨q4, -⟩ := q3
    omega
  · obtain ⟨q4, q5⟩ := q3
    rw [ht, Nat.add_sub_cancel_left] at q5
    cases q1.symm.trans hc
    exact q5
theorem xv_R.obj {w : xv_W} {cl : List vw_C} {rk : Nat → Bool} {h : xv_H} {H : Heap} {a ci : Nat} (hR : xv_R w cl rk h H) (ha : a < h.1) (ht : h.2.2.1 a = ci) (hci : ci < 100) : ∃ cell : Cell, H[w.1 + a]? = some cell ∧ cell.vm = .none ∧ cell.cls = w.2.2.2.1.1 ci := by
  obtain ⟨cell, q1, q2, q3 | q3⟩ := hR.2.2 a ha
  · obtain ⟨q4, q5, -⟩ := q3
    rw [ht] at q5
    exact ⟨cell, q1, q2, q5⟩
  · exfalso
    obtain ⟨q4, -⟩ := q3
    omega
theorem xv_in_not {i : Int32} {k : Nat} (h0 : 0 ≤ i) (h : i.toNatClampNeg < k) : ¬ (i < 0 ∨ k ≤ i.toNatClampNeg) := fun q => by
  rcases q with q | q
  · exact Int32.not_lt.mpr h0 q
  · omega
/-- an element is stored -/
theorem xv_R.pute {w : xv_W} {cl : List vw_C} {rk : Nat → Bool} {h h' : xv_H} {a j k : Nat} {H H' : Heap} {cell : Cell} {v0 : Value} (hR : xv_R w cl rk h H) (ha : a < h.1) (ht : h.2.2.1 a = 100 + j) (hk : k < h.2.2.2.1 a)
    (hcell : H[w.1 + a]? = some cell) (hH : H'[w.1 + a]? = some (cell.setSlot k v0)) (hz : H'.size = H.size) (ho : ∀ q, q ≠ w.1 + a → H'[q]? = H[q]?) (e1 : h'.1 = h.1) (e2 : h'.2.2.1 = h.2.2.1) (e3 : h'.2.2.2.1 = h.2.2.2.1) (hf : ∀ g b, xv_fv w rk h' g b = xv_fv w rk h g b) (hv : xv_ev w h' (100 + j) a k = v0)
    (he : ∀ t b i, ¬ (b = a ∧ i = k) → xv_ev w h' t b i = xv_ev w h t b i) : xv_R w cl rk h' H' := by
  refine hR.set e1 hz ho hH ?_ fun b cb hb hne hcb => hcb.keep (by rw [e2]) (by rw [e3]) (fun g => hf g b) (fun t i => he t b i (fun z => hne z.1))
  have q5 := hR.arrV ha ht hcell
  subst q5
  refine ⟨rfl, Or.inr ⟨by rw [e2, ht]; omega, ?_⟩⟩
  rw [e2, e3, ht, Nat.add_sub_cancel_left, arrV_store]
  congr 1
  funext i
  by_cases hik : i = k
  · subst hik
    rw [hv]; simp [updV]
  · rw [he _ _ _ (fun z => hik z.2)]; simp [updV, hik]
section XA
variable {p : Program} {l : Launch} {e : Env} {R : Room} {s : State} {m : MethodId} {args : Array Value} {below : List Frame} {meth : Method} {c : Code} {Q : State → Prop} {cc : ByteArray} {w : xv_W} {cl : List vw_C} {rk : Nat → Bool} {aty : List FieldType} {WS : List Jvm.Cond} {stt : List (String × String × String)} {sx : xv_X} {sc : Nat × (Nat → Int32)} {own : String} {nL n0 z0 nE zE : Nat} {lg : List Nat} {pc : Nat} {L : xv_L} {st r : List Value} {n z : Nat} {tg ln : Nat → Nat} {fr er : Nat → Nat → Option Nat} {fi ei : Nat → Nat → Int32} {el : Nat → Nat → Int64} {x y i : Int32} {u v : Int64} {a b : Nat} {o : Option Nat}
theorem xs_iald (hC : xv_Cx p R s m args meth c cc w cl aty WS stt sx sc own nL n0 z0 nE zE) (hd : decode cc pc = .ok (.iaload, 1)) (hty : aty[0]? = some .int) (hE : n ≤ nE) (ha : a < n) (h0 : 0 ≤ i) (hi : i.toNatClampNeg < ln a) (ht : tg a = 100 + 0) (hG : xv_G p l e R s m args below meth c Q w cl rk lg nL n0 z0 (pc + 1, L, .int (ei a i.toNatClampNeg) :: st, (n, z, tg, ln, fr, er, fi, ei, el))) : xv_G p l e R s m args below meth c Q w cl rk lg nL n0 z0 (pc, L, .int i :: .ref a :: st, (n, z, tg, ln, fr, er, fi, ei, el)) := by
  intro ls H locs hl hR hS h1 h2
  obtain ⟨⟨hx, hb, hml, hown, hts⟩, ⟨hK, hA⟩, ⟨hr1, hr2, hr3, hr4⟩, -⟩ := hC
  have hal : xv_al w a = w.1 + a := xv_al_lt (by omega)
  obtain ⟨cell, q1, q2, q5, q6, q7⟩ := hR.arr ha (j := 0) ht
  refine W.iald hx hb (a := w.1 + a) q1 (xv_arr_is (hA 0 _ hty).1 q5 q2) (by rw [q2]; exact fun h => by cases h) (xv_in_not h0 (by rw [q6]; exact hi)) (q7 _ hi) rfl (rest := st.map (xv_cv (xv_al w))) (by simp only [List.map_cons, xv_cv, hal]) hd ?_
  have hg := hG ls H locs hl hR hS h1 h2
  exact hg
theorem xs_bald (hC : xv_Cx p R s m args meth c cc w cl aty WS stt sx sc own nL n0 z0 nE zE) (hd : decode cc pc = .ok (.baload, 1)) (hty : aty[1]? = some .byte) (hE : n ≤ nE) (ha : a < n) (h0 : 0 ≤ i) (hi : i.toNatClampNeg < ln a) (ht : tg a = 100 + 1) (hG : xv_G p l e R s m args below meth c Q w cl rk lg nL n0 z0 (pc + 1, L, .int (ei a i.toNatClampNeg) :: st, (n, z, tg, ln, fr, er, fi, ei, el))) : xv_G p l e R s m args below meth c Q w cl rk lg nL n0 z0 (pc, L, .int i :: .ref a :: st, (n, z, tg, ln, fr, er, fi, ei, el)) := by
  intro ls H locs hl hR hS h1 h2
  obtain ⟨⟨hx, hb, hml, hown, hts⟩, ⟨hK, hA⟩, ⟨hr1, hr2, hr3, hr4⟩, -⟩ := hC
  have hal : xv_al w a = w.1 + a := xv_al_lt (by omega)
  obtain ⟨cell, q1, q2, q5, q6, q7⟩ := hR.arr ha (j := 1) ht
  refine W.bald hx hb (a := w.1 + a) q1 (xv_arr_is (hA 1 _ hty).1 q5 q2) (by rw [q2]; exact fun h => by cases h) (xv_in_not h0 (by rw [q6]; exact hi)) (q7 _ hi) rfl (rest := st.map (xv_cv (xv_al w))) (by simp only [List.map_cons, xv_cv, hal]) hd ?_
  have hg := hG ls H locs hl hR hS h1 h2
  exact hg
theorem xs_zald (hC : xv_Cx p R s m args meth c cc w cl aty WS stt sx sc own nL n0 z0 nE zE) (hd : decode cc pc = .ok (.baload, 1)) (hty : aty[2]? = some .boolean) (hE : n ≤ nE) (ha : a < n) (h0 : 0 ≤ i) (hi : i.toNatClampNeg < ln a) (ht : tg a = 100 + 2) (hG : xv_G p l e R s m args below meth c Q w cl rk lg nL n0 z0 (pc + 1, L, .int (ei a i.toNatClampNeg) :: st, (n, z, tg, ln, fr, er, fi, ei, el))) : xv_G p l e R s m args below meth c Q w cl rk lg nL n0 z0 (pc, L, .int i :: .ref a :: st, (n, z, tg, ln, fr, er, fi, ei, el)) := by
  intro ls H locs hl hR hS h1 h2
  obtain ⟨⟨hx, hb, hml, hown, hts⟩, ⟨hK, hA⟩, ⟨hr1, hr2, hr3, hr4⟩, -⟩ := hC
  have hal : xv_al w a = w.1 + a := xv_al_lt (by omega)
  obtain ⟨cell, q1, q2, q5, q6, q7⟩ := hR.arr ha (j := 2) ht
  refine W.zald hx hb (a := w.1 + a) q1 (xv_arr_is (hA 2 _ hty).1 q5 q2) (by rw [q2]; exact fun h => by cases h) (xv_in_not h0 (by rw [q6]; exact hi)) (q7 _ hi) rfl (rest := st.map (xv_cv (xv_al w))) (by simp only [List.map_cons, xv_cv, hal]) hd ?_
  have hg := hG ls H locs hl hR hS h1 h2
  exact hg
theorem xs_lald (hC : xv_Cx p R s m args meth c cc w cl aty WS stt sx sc own nL n0 z0 nE zE) (hd : decode cc pc = .ok (.laload, 1)) (hty : aty[3]? = some .long) (hE : n ≤ nE) (ha : a < n) (h0 : 0 ≤ i) (hi : i.toNatClampNeg < ln a) (ht : tg a = 100 + 3) (hG : xv_G p l e R s m args below meth c Q w cl rk lg nL n0 z0 (pc + 1, L, .long (el a i.toNatClampNeg) :: st, (n, z, tg, ln, fr, er, fi, ei, el))) : xv_G p l e R s m args below meth c Q w cl rk lg nL n0 z0 (pc, L, .int i :: .ref a :: st, (n, z, tg, ln, fr, er, fi, ei, el)) := by
  intro ls H locs hl hR hS h1 h2
  obtain ⟨⟨hx, hb, hml, hown, hts⟩, ⟨hK, hA⟩, ⟨hr1, hr2, hr3, hr4⟩, -⟩ := hC
  have hal : xv_al w a = w.1 + a := xv_al_lt (by omega)
  obtain ⟨cell, q1, q2, q5, q6, q7⟩ := hR.arr ha (j := 3) ht
  refine W.lald hx hb (a := w.1 + a) q1 (xv_arr_is (hA 3 _ hty).1 q5 q2) (by rw [q2]; exact fun h => by cases h) (xv_in_not h0 (by rw [q6]; exact hi)) (q7 _ hi) rfl (rest := st.map (xv_cv (xv_al w))) (by simp only [List.map_cons, xv_cv, hal]) hd ?_
  have hg := hG ls H locs hl hR hS h1 h2
  exact hg
theorem xs_aald {j : Nat} {C : String} (hC : xv_Cx p R s m args meth c cc w cl aty WS stt sx sc own nL n0 z0 nE zE) (hd : decode cc pc = .ok (.aaload, 1)) (hty : aty[j]? = some (.object C)) (hj : 4 ≤ j) (hE : n ≤ nE) (ha : a < n) (h0 : 0 ≤ i) (hi : i.toNatClampNeg < ln a) (ht : tg a = 100 + j) (hG : xv_G p l e R s m args below meth c Q w cl rk lg nL n0 z0 (pc + 1, L, va_rf (er a i.toNatClampNeg) :: st, (n, z, tg, ln, fr, er, fi, ei, el))) : xv_G p l e R s m args below meth c Q w cl rk lg nL n0 z0 (pc, L, .int i :: .ref a :: st, (n, z, tg, ln, fr, er, fi, ei, el)) := by
  intro ls H locs hl hR hS h1 h2
  obtain ⟨⟨hx, hb, hml, hown, hts⟩, ⟨hK, hA⟩, ⟨hr1, hr2, hr3, hr4⟩, -⟩ := hC
  have hal : xv_al w a = w.1 + a := xv_al_lt (by omega)
  obtain ⟨cell, q1, q2, q5, q6, q7⟩ := hR.arr ha (j := j) ht
  refine W.aald hx hb (a := w.1 + a) q1 (xv_arr_is (hA j _ hty).1 q5 q2) rfl (by rw [q2]; exact fun h => by cases h) (xv_in_not h0 (by rw [q6]; exact hi)) (q7 _ hi) rfl (rest := st.map (xv_cv (xv_al w))) (by simp only [List.map_cons, xv_cv, hal]) hd ?_
  have hg := hG ls H locs hl hR hS h1 h2
  have e : xv_ev w (n, z, tg, ln, fr, er, fi, ei, el) (100 + j) a i.toNatClampNeg = xv_cv (xv_al w) (va_rf (er a i.toNatClampNeg)) := by
    unfold xv_ev
    rw [if_neg (by omega), if_pos (by omega)]
  rw [e]
  exact hg
theorem xs_iast (hC : xv_Cx p R s m args meth c cc w cl aty WS stt sx sc own nL n0 z0 nE zE) (hd : decode cc pc = .ok (.iastore, 1)) (hty : aty[0]? = some .int) (hE : n ≤ nE) (ha : a < n) (h0 : 0 ≤ i) (hi : i.toNatClampNeg < ln a) (ht : tg a = 100 + 0) (hG : xv_G p l e R s m args below meth c Q w cl rk lg nL n0 z0 (pc + 1, L, st, (n, z, tg, ln, fr, er, fi, xv_up ei a i.toNatClampNeg x, el))) : xv_G p l e R s m args below meth c Q w cl rk lg nL n0 z0 (pc, L, .int x :: .int i :: .ref a :: st, (n, z, tg, ln, fr, er, fi, ei, el)) := by
  intro ls H locs hl hR hS h1 h2
  obtain ⟨⟨hx, hb, hml, hown, hts⟩, ⟨hK, hA⟩, ⟨hr1, hr2, hr3, hr4⟩, -⟩ := hC
  have hal : xv_al w a = w.1 + a := xv_al_lt (by omega)
  obtain ⟨cell, q1, q2, q5, q6, q7⟩ := hR.arr ha (j := 0) ht
  refine W.iast (x := x) hx hb (a := w.1 + a) q1 (xv_arr_is (hA 0 _ hty).1 q5 q2) (by rw [q2]; exact fun h => by cases h) (xv_in_not h0 (by rw [q6]; exact hi)) rfl (rest := st.map (xv_cv (xv_al w))) (by simp only [List.map_cons, xv_cv, hal]) hd fun H' g1 g2 g3 => ?_
  refine hG ls H' _ hl (hR.pute (h' := (n, z, tg, ln, fr, er, fi, xv_up ei a i.toNatClampNeg x, el)) ha ht hi q1 g1 g2 g3 rfl rfl rfl (fun g b => rfl) (by simp [xv_ev, xv_up_eq]) ?_) (hS.put g2 g3 (Nat.le_add_right _ _)) h1 h2
  intro t b k hne
  simp only [xv_ev, xv_up_ne hne]
theorem xs_bast (hC : xv_Cx p R s m args meth c cc w cl aty WS stt sx sc own nL n0 z0 nE zE) (hd : decode cc pc = .ok (.bastore, 1)) (hty : aty[1]? = some .byte) (hE : n ≤ nE) (ha : a < n) (h0 : 0 ≤ i) (hi : i.toNatClampNeg < ln a) (ht : tg a = 100 + 1) (hG : xv_G p l e R s m args below meth c Q w cl rk lg nL n0 z0 (pc + 1, L, st, (n, z, tg, ln, fr, er, fi, xv_up ei a i.toNatClampNeg x.toInt8.toInt32, el))) : xv_G p l e R s m args below meth c Q w cl rk lg nL n0 z0 (pc, L, .int x :: .int i :: .ref a :: st, (n, z, tg, ln, fr, er, fi, ei, el)) := by
  intro ls H locs hl hR hS h1 h2
  obtain ⟨⟨hx, hb, hml, hown, hts⟩, ⟨hK, hA⟩, ⟨hr1, hr2, hr3, hr4⟩, -⟩ := hC
  have hal : xv_al w a = w.1 + a := xv_al_lt (by omega)
  obtain ⟨cell, q1, q2, q5, q6, q7⟩ := hR.arr ha (j := 1) ht
  refine W.bast (x := x) hx hb (a := w.1 + a) q1 (xv_arr_is (hA 1 _ hty).1 q5 q2) (by rw [q2]; exact fun h => by cases h) (xv_in_not h0 (by rw [q6]; exact hi)) rfl (rest := st.map (xv_cv (xv_al w))) (by simp only [List.map_cons, xv_cv, hal]) hd fun H' g1 g2 g3 => ?_
  refine hG ls H' _ hl (hR.pute (h' := (n, z, tg, ln, fr, er, fi, xv_up ei a i.toNatClampNeg x.toInt8.toInt32, el)) ha ht hi q1 g1 g2 g3 rfl rfl rfl (fun g b => rfl) (by simp [xv_ev, xv_up_eq, narrow]) ?_) (hS.put g2 g3 (Nat.le_add_right _ _)) h1 h2
  intro t b k hne
  simp only [xv_ev, xv_up_ne hne]
theorem xs_zast (hC : xv_Cx p R s m args meth c cc w cl aty WS stt sx sc own nL n0 z0 nE zE) (hd : decode cc pc = .ok (.bastore, 1)) (hty : aty[2]? = some .boolean) (hE : n ≤ nE) (ha : a < n) (h0 : 0 ≤ i) (hi : i.toNatClampNeg < ln a) (ht : tg a = 100 + 2) (hx0 : x = 0 ∨ x = 1) (hG : xv_G p l e R s m args below meth c Q w cl rk lg nL n0 z0 (pc + 1, L, st, (n, z, tg, ln, fr, er, fi, xv_up ei a i.toNatClampNeg x, el))) : xv_G p l e R s m args below meth c Q w cl rk lg nL n0 z0 (pc, L, .int x :: .int i :: .ref a :: st, (n, z, tg, ln, fr, er, fi, ei, el)) := by
  intro ls H locs hl hR hS h1 h2
  obtain ⟨⟨hx, hb, hml, hown, hts⟩, ⟨hK, hA⟩, ⟨hr1, hr2, hr3, hr4⟩, -⟩ := hC
  have hal : xv_al w a = w.1 + a := xv_al_lt (by omega)
  obtain ⟨cell, q1, q2, q5, q6, q7⟩ := hR.arr ha (j := 2) ht
  refine W.zast (x := x) hx hb (a := w.1 + a) q1 (xv_arr_is (hA 2 _ hty).1 q5 q2) (by rw [q2]; exact fun h => by cases h) (xv_in_not h0 (by rw [q6]; exact hi)) rfl (rest := st.map (xv_cv (xv_al w))) (by simp only [List.map_cons, xv_cv, hal]) hd fun H' g1 g2 g3 => ?_
  refine hG ls H' _ hl (hR.pute (h' := (n, z, tg, ln, fr, er, fi, xv_up ei a i.toNatClampNeg x, el)) ha ht hi q1 g1 g2 g3 rfl rfl rfl (fun g b => rfl) (by rcases hx0 with rfl | rfl <;> simp [xv_ev, xv_up_eq, narrow] <;> decide) ?_) (hS.put g2 g3 (Nat.le_add_right _ _)) h1 h2
  intro t b k hne
  simp only [xv_ev, xv_up_ne hne]
theorem xs_last (hC : xv_Cx p R s m args meth c cc w cl aty WS stt sx sc own nL n0 z0 nE zE) (hd : decode cc pc = .ok (.lastore, 1)) (hty : aty[3]? = some .long) (hE : n ≤ nE) (ha : a < n) (h0 : 0 ≤ i) (hi : i.toNatClampNeg < ln a) (ht : tg a = 100 + 3) (hG : xv_G p l e R s m args below meth c Q w cl rk lg nL n0 z0 (pc + 1, L, st, (n, z, tg, ln, fr, er, fi, ei, xv_up el a i.toNatClampNeg u))) : xv_G p l e R s m args below meth c Q w cl rk lg nL n0 z0 (pc, L, .long u :: .int i :: .ref a :: st, (n, z, tg, ln, fr, er, fi, ei, el)) := by
  intro ls H locs hl hR hS h1 h2
  obtain ⟨⟨hx, hb, hml, hown, hts⟩, ⟨hK, hA⟩, ⟨hr1, hr2, hr3, hr4⟩, -⟩ := hC
  have hal : xv_al w a = w.1 + a := xv_al_lt (by omega)
  obtain ⟨cell, q1, q2, q5, q6, q7⟩ := hR.arr ha (j := 3) ht
  refine W.last (x := u) hx hb (a := w.1 + a) q1 (xv_arr_is (hA 3 _ hty).1 q5 q2) (by rw [q2]; exact fun h => by cases h) (xv_in_not h0 (by rw [q6]; exact hi)) rfl (rest := st.map (xv_cv (xv_al w))) (by simp only [List.map_cons, xv_cv, hal]) hd fun H' g1 g2 g3 => ?_
  refine hG ls H' _ hl (hR.pute (h' := (n, z, tg, ln, fr, er, fi, ei, xv_up el a i.toNatClampNeg u)) ha ht hi q1 g1 g2 g3 rfl rfl rfl (fun g b => rfl) (by simp [xv_ev, xv_up_eq]) ?_) (hS.put g2 g3 (Nat.le_add_right _ _)) h1 h2
  intro t b k hne
  simp only [xv_ev, xv_up_ne hne]
theorem xs_aastN {j : Nat} {C : String} (hC : xv_Cx p R s m args meth c cc w cl aty WS stt sx sc own nL n0 z0 nE zE) (hd : decode cc pc = .ok (.aastore, 1)) (hty : aty[j]? = some (.object C)) (hj : 4 ≤ j) (hE : n ≤ nE) (ha : a < n) (h0 : 0 ≤ i) (hi : i.toNatClampNeg < ln a) (ht : tg a = 100 + j) (hG : xv_G p l e R s m args below meth c Q w cl rk lg nL n0 z0 (pc + 1, L, st, (n, z, tg, ln, fr, xv_up er a i.toNatClampNeg none, fi, ei, el))) : xv_G p l e R s m args below meth c Q w cl rk lg nL n0 z0 (pc, L, .null :: .int i :: .ref a :: st, (n, z, tg, ln, fr, er, fi, ei, el)) := by
  intro ls H locs hl hR hS h1 h2
  obtain ⟨⟨hx, hb, hml, hown, hts⟩, ⟨hK, hA⟩, ⟨hr1, hr2, hr3, hr4⟩, -⟩ := hC
  have hal : xv_al w a = w.1 + a := xv_al_lt (by omega)
  obtain ⟨cell, q1, q2, q5, q6, q7⟩ := hR.arr ha (j := j) ht
  refine va_WaastN (C := C) hx hb (a := w.1 + a) q1 (xv_arr_is (hA j _ hty).1 q5 q2) (by rw [q2]; exact fun h => by cases h) (xv_in_not h0 (by rw [q6]; exact hi)) rfl (rest := st.map (xv_cv (xv_al w))) (by simp only [List.map_cons, xv_cv, hal]) hd fun H' g1 g2 g3 => ?_
  refine hG ls H' _ hl (hR.pute (h' := (n, z, tg, ln, fr, xv_up er a i.toNatClampNeg none, fi, ei, el)) ha ht hi q1 g1 g2 g3 rfl rfl rfl (fun g b => rfl) (by unfold xv_ev; rw [if_neg (by omega), if_pos (by omega)]; simp only [xv_up_eq]; rfl) ?_) (hS.put g2 g3 (Nat.le_add_right _ _)) h1 h2
  intro t b k hne
  simp only [xv_ev, xv_up_ne hne]
theorem xs_aast {j cj : Nat} {C : String} {q : vw_C} (hC : xv_Cx p R s m args meth c cc w cl aty WS stt sx sc own nL n0 z0 nE zE) (hd : decode cc pc = .ok (.aastore, 1)) (hty : aty[j]? = some (.object C)) (hj : 4 ≤ j) (hq : cl[cj]? = some q) (hcj : cj < 100) (hca : C = q.1 ∨ (q.1, C) ∈ sx.1) (hE : n ≤ nE) (ha : a < n) (h0 : 0 ≤ i) (hi : i.toNatClampNeg < ln a) (ht : tg a = 100 + j) (hb0 : b < n) (htb : tg b = cj) (hG : xv_G p l e R s m args below meth c Q w cl rk lg nL n0 z0 (pc + 1, L, st, (n, z, tg, ln, fr, xv_up er a i.toNatClampNeg (some b), fi, ei, el))) : xv_G p l e R s m args below meth c Q w cl rk lg nL n0 z0 (pc, L, .ref b :: .int i :: .ref a :: st, (n, z, tg, ln, fr, er, fi, ei, el)) := by
  intro ls H locs hl hR hS h1 h2
  obtain ⟨⟨hx, hb, hml, hown, hts⟩, ⟨hK, hA⟩, ⟨hr1, hr2, hr3, hr4⟩, -, hXE, -⟩ := hC
  have hal : xv_al w a = w.1 + a := xv_al_lt (by omega)
  obtain ⟨cell, q1, q2, q5, q6, q7⟩ := hR.arr ha (j := j) ht
  have hbl : xv_al w b = w.1 + b := xv_al_lt (by omega)
  obtain ⟨cellV, g1, g2, g3⟩ := hR.obj hb0 htb hcj
  have hcls := (hK.1 cj q hq).2
  obtain ⟨kA, comp, k1, k2, k3, -⟩ := (hA j _ hty).2
  obtain ⟨kE, hkE, -⟩ := Vm.findClass_spec k3
  obtain ⟨kC, hkC, -⟩ := hcls.2
  have hasg : s.vm.assignable (w.2.2.2.1.1 cj) comp = true := by
    rcases hca with hca | hca
    · subst hca
      cases k3.symm.trans hcls.1
      exact va_assign hcls
    · obtain ⟨c0, t1, f1, f2, f3⟩ := Cond.castable_spec (va_Nw.use (A := args) rfl (hXE.1 _ hca))
      cases hcls.1.symm.trans f1
      cases k3.symm.trans f2
      exact f3
  refine W.aast hx hb (a := w.1 + a) (v := w.1 + b) q1 (fun q h => by rw [q2] at h; cases h) (fun h => by rw [q2] at h; cases h) (by rw [q5]; exact k1) k2 rfl hkE ⟨Int32.not_lt.mpr h0, by rw [q6]; exact hi⟩ g1 (fun q h => by rw [g2] at h; cases h) (by rw [g3]; exact hkC) (by rw [g3]; exact hasg) rfl (rest := st.map (xv_cv (xv_al w))) (by simp only [List.map_cons, xv_cv, hal, hbl]) hd fun H' g1 g2 g3 => ?_
  refine hG ls H' _ hl (hR.pute (h' := (n, z, tg, ln, fr, xv_up er a i.toNatClampNeg (some b), fi, ei, el)) ha ht hi q1 g1 g2 g3 rfl rfl rfl (fun g b => rfl) (by unfold xv_ev; rw [if_neg (by omega), if_pos (by omega)]; simp only [xv_up_eq, va_rf, xv_cv, hbl]) ?_) (hS.put g2 g3 (Nat.le_add_right _ _)) h1 h2
  intro t b k hne
  simp only [xv_ev, xv_up_ne hne]
theorem xs_alen {j : Nat} {ty : FieldType} (hC : xv_Cx p R s m args meth c cc w cl aty WS stt sx sc own nL n0 z0 nE zE) (hd : decode cc pc = .ok (.arraylength, 1)) (hty : aty[j]? = some ty) (hE : n ≤ nE) (ha : a < n) (ht : tg a = 100 + j) (hG : xv_G p l e R s m args below meth c Q w cl rk lg nL n0 z0 (pc + 1, L, .int (Int32.ofNat (ln a)) :: st, (n, z, tg, ln, fr, er, fi, ei, el))) : xv_G p l e R s m args below meth c Q w cl rk lg nL n0 z0 (pc, L, .ref a :: st, (n, z, tg, ln, fr, er, fi, ei, el)) := by
  intro ls H locs hl hR hS h1 h2
  obtain ⟨⟨hx, hb, hml, hown, hts⟩, ⟨hK, hA⟩, ⟨hr1, hr2, hr3, hr4⟩, -⟩ := hC
  have hal : xv_al w a = w.1 + a := xv_al_lt (by omega)
  obtain ⟨cell, q1, q2, q5, q6, q7⟩ := hR.arr ha (j := j) ht
  refine W.alen (n := Int32.ofNat (ln a)) hx hb (a := w.1 + a) q1 (xv_arr_is (hA j _ hty).1 q5 q2) (by rw [q6]) rfl (rest := st.map (xv_cv (xv_al w))) (by simp only [List.map_cons, xv_cv, hal]) hd ?_
  exact hG ls H locs hl hR hS h1 h2
/-- the script -/
theorem xs_sald {h : xv_H} (hC : xv_Cx p R s m args meth c cc w cl aty WS stt sx sc own nL n0 z0 nE zE) (hd : decode cc pc = .ok (.iaload, 1)) (h0 : 0 ≤ i) (hi : i.toNatClampNeg < sc.1) (hG : xv_G p l e R s m args below meth c Q w cl rk lg nL n0 z0 (pc + 1, L, .int (sc.2 i.toNatClampNeg) :: st, h)) : xv_G p l e R s m args below meth c Q w cl rk lg nL n0 z0 (pc, L, .int i :: .ref xv_SB :: st, h) := by
  intro ls H locs hl hR hS h1 h2
  obtain ⟨⟨hx, hb, hml, hown, hts⟩, -, ⟨-, -, -, hr4⟩, ⟨hX, hX1, hX2, -⟩, -, -⟩ := hC
  have hal : xv_al w xv_SB = w.2.2.1 0 := xv_al_st (k := 0) (by omega)
  have := va_sld (A := fun a => w.1 ≤ a) (rest := st.map (xv_cv (xv_al w))) hx hb hX (by omega) (by omega) hS (xv_in_not h0 hi) hd (hG ls H locs hl hR hS h1 h2)
  simp only [List.map_cons, xv_cv, hal]
  exact this
theorem xs_slen {h : xv_H} (hC : xv_Cx p R s m args meth c cc w cl aty WS stt sx sc own nL n0 z0 nE zE) (hd : decode cc pc = .ok (.arraylength, 1)) (hG : xv_G p l e R s m args below meth c Q w cl rk lg nL n0 z0 (pc + 1, L, .int (Int32.ofNat sc.1) :: st, h)) : xv_G p l e R s m args below meth c Q w cl rk lg nL n0 z0 (pc, L, .ref xv_SB :: st, h) := by
  intro ls H locs hl hR hS h1 h2
  obtain ⟨⟨hx, hb, hml, hown, hts⟩, -, ⟨-, -, -, hr4⟩, ⟨hX, hX1, hX2, -⟩, -, -⟩ := hC
  have hal : xv_al w xv_SB = w.2.2.1 0 := xv_al_st (k := 0) (by omega)
  have := va_slen (A := fun a => w.1 ≤ a) (rest := st.map (xv_cv (xv_al w))) hx hb hX (by omega) (by omega) hS hd (hG ls H locs hl hR hS h1 h2)
  simp only [List.map_cons, xv_cv, hal]
  exact this
/-- the row of no elements that every list begins with -/
theorem xs_elen {h : xv_H} (hC : xv_Cx p R s m args meth c cc w cl aty WS stt sx sc own nL n0 z0 nE zE) (hd : decode cc pc = .ok (.arraylength, 1)) (hG : xv_G p l e R s m args below meth c Q w cl rk lg nL n0 z0 (pc + 1, L, .int 0 :: st, h)) : xv_G p l e R s m args below meth c Q w cl rk lg nL n0 z0 (pc, L, .ref (xv_SB + 2) :: st, h) := by
  intro ls H locs hl hR hS h1 h2
  obtain ⟨⟨hx, hb, hml, hown, hts⟩, -, -, ⟨-, -, hX2, fv, hT⟩, -, -⟩ := hC
  have hal : xv_al w (xv_SB + 2) = w.2.2.1 2 := xv_al_st hX2
  have := va_tlen (v := 0) (rest := st.map (xv_cv (xv_al w))) hx hb hT hS rfl hd (hG ls H locs hl hR hS h1 h2)
  simp only [List.map_cons, xv_cv, hal]
  exact this
/-- a constant that was there before -/
theorem xs_gets {h : xv_H} {k idx : Nat} {q : String × String × String} {ref : String} (hC : xv_Cx p R s m args meth c cc w cl aty WS stt sx sc own nL n0 z0 nE zE) (hd : decode cc pc = .ok (.getstatic idx, 3)) (hq : stt[k]? = some q) (hlink : Jvm.Cond.fieldLink own idx ref q.2.1 q.2.2 ∈ WS) (hsame : ref = q.1 ∨ Jvm.Cond.sameField ref q.1 q.2.1 q.2.2 ∈ WS) (hG : xv_G p l e R s m args below meth c Q w cl rk lg nL n0 z0 (pc + 3, L, .ref (xv_SB + (k + 2)) :: st, h)) : xv_G p l e R s m args below meth c Q w cl rk lg nL n0 z0 (pc, L, st, h) := by
  intro ls H locs hl hR hS h1 h2
  obtain ⟨⟨hx, hb, hml, hown, hts⟩, -, -, -, -, hZ⟩ := hC
  obtain ⟨hk, hZ⟩ := hZ k q hq
  have hal : xv_al w (xv_SB + (k + 2)) = w.2.2.1 (k + 2) := xv_al_st hk
  have hg := hG ls H locs hl hR hS h1 h2
  simp only [List.map_cons, xv_cv, hal] at hg
  refine va_gets (C := q.1) (ref := ref) hx hb hZ hS hown (hts _ hlink) ?_ hd hg
  intro x hx
  rcases hsame with h | h
  · rw [h]; exact hx
  · exact u_same (hts _ h) _ hx
theorem xs_castN {h : xv_H} {idx : Nat} (hC : xv_Cx p R s m args meth c cc w cl aty WS stt sx sc own nL n0 z0 nE zE) (hd : decode cc pc = .ok (.checkcast idx, 3)) (hG : xv_G p l e R s m args below meth c Q w cl rk lg nL n0 z0 (pc + 3, L, .null :: st, h)) : xv_G p l e R s m args below meth c Q w cl rk lg nL n0 z0 (pc, L, .null :: st, h) :=
  fun ls H locs hl hR hS h1 h2 => lv_castN hC.1.1 hC.1.2.1 hd (hG ls H locs hl hR hS h1 h2)
theorem xs_cast {ci idx : Nat} {q : vw_C} (hC : xv_Cx p R s m args meth c cc w cl aty WS stt sx sc own nL n0 z0 nE zE) (hd : decode cc pc = .ok (.checkcast idx, 3)) (hq : cl[ci]? = some q) (hci : ci < 100) (hlink : Jvm.Cond.classLink own idx q.1 ∈ WS) (hE : n ≤ nE) (ha : a < n) (ht : tg a = ci) (hG : xv_G p l e R s m args below meth c Q w cl rk lg nL n0 z0 (pc + 3, L, .ref a :: st, (n, z, tg, ln, fr, er, fi, ei, el))) : xv_G p l e R s m args below meth c Q w cl rk lg nL n0 z0 (pc, L, .ref a :: st, (n, z, tg, ln, fr, er, fi, ei, el)) := by
  intro ls H locs hl hR hS h1 h2
  obtain ⟨⟨hx, hb, hml, hown, hts⟩, ⟨hK, hA⟩, ⟨hr1, hr2, hr3, hr4⟩, -⟩ := hC
  obtain ⟨cell, g1, g2, g3⟩ := hR.obj ha ht hci
  have hal : xv_al w a = w.1 + a := xv_al_lt (by omega)
  have hcls := (hK.1 ci q hq).2
  have hg := hG ls H locs hl hR hS h1 h2
  simp only [List.map_cons, xv_cv, hal] at hg ⊢
  exact va_castS hx hb hown (hts _ hlink) hcls ⟨cell, g1, by rw [g2]; rfl, by rw [g3]; exact hcls.1⟩ hd hg
theorem xs_castA {j idx : Nat} {ty : FieldType} {nm : String} (hC : xv_Cx p R s m args meth c cc w cl aty WS stt sx sc own nL n0 z0 nE zE) (hd : decode cc pc = .ok (.checkcast idx, 3)) (hty : aty[j]? = some ty) (hlink : Jvm.Cond.classLink own idx nm ∈ WS) (hnm : s.vm.findClass nm = some (w.2.2.2.2.1 j)) (hE : n ≤ nE) (ha : a < n) (ht : tg a = 100 + j) (hG : xv_G p l e R s m args below meth c Q w cl rk lg nL n0 z0 (pc + 3, L, .ref a :: st, (n, z, tg, ln, fr, er, fi, ei, el))) : xv_G p l e R s m args below meth c Q w cl rk lg nL n0 z0 (pc, L, .ref a :: st, (n, z, tg, ln, fr, er, fi, ei, el)) := by
  intro ls H locs hl hR hS h1 h2
  obtain ⟨⟨hx, hb, hml, hown, hts⟩, ⟨hK, hA⟩, ⟨hr1, hr2, hr3, hr4⟩, -⟩ := hC
  have hal : xv_al w a = w.1 + a := xv_al_lt (by omega)
  obtain ⟨cell, q1, q2, q5, q6, q7⟩ := hR.arr ha (j := j) ht
  have hg := hG ls H locs hl hR hS h1 h2
  simp only [List.map_cons, xv_cv, hal] at hg ⊢
  exact va_castE hx hb hown (hts _ hlink) ⟨cell, q1, by rw [q2]; rfl, by rw [q5]; exact hnm⟩ hd hg
end XA
