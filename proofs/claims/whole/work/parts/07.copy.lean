/-! Copies: System.arraycopy, clone; Object's own start. -/
theorem xv_nn {z : Int32} (hz : 0 ≤ z) : z.toInt = (z.toNatClampNeg : Int) := by
  have hz0 : (0 : Int) ≤ z.toInt := by simpa using Int32.le_iff_toInt_le.mp hz
  show z.toInt = ((z.toInt.toNat : Nat) : Int)
  omega
theorem xv_cats (al : Nat → Nat) : ∀ r : List Value, ((r.map (xv_cv al)).map fun v => v.category).sum = (r.map fun v => v.category).sum
  | [] => rfl
  | v :: r => by simp only [List.map_cons, List.sum_cons, xv_cv_cat, xv_cats al r]
theorem xv_room_spec {r : List Value} (h : xv_room r = true) : (r.map fun v => v.category).sum ≤ 8 := by simpa [xv_room] using h
section XC
variable {p : Program} {l : Launch} {e : Env} {R : Room} {s : State} {m : MethodId} {args : Array Value} {below : List Frame} {meth : Method} {c : Code} {Q : State → Prop} {cc : ByteArray} {w : xv_W} {cl : List vw_C} {rk : Nat → Bool} {aty : List FieldType} {WS : List Jvm.Cond} {stt : List (String × String × String)} {sx : xv_X} {sc : Nat × (Nat → Int32)} {own : String} {nL n0 z0 nE zE : Nat} {lg : List Nat} {pc : Nat} {L : xv_L} {st r : List Value} {n z : Nat} {tg ln : Nat → Nat} {fr er : Nat → Nat → Option Nat} {fi ei : Nat → Nat → Int32} {el : Nat → Nat → Int64} {a b : Nat} {H : Heap} {locs : List Loc} {cells slots : Nat} {ls : Array Slot}
/-- arraycopy over any two arrays -/
theorem xw_copy (hexec : p.tables.exec = Jvm.exec) (hb : c.code = cc) (hml : c.maxLocals = ls.size) {index : Nat} (hown : s.vm.findClass own = some m.cls) (hlink : (Jvm.Cond.methodLink own index arraycopyName).before args s = true) (hnat : (Jvm.Cond.native arraycopyName).before args s = true) (hstat : (Jvm.Cond.static arraycopyName).before args s = true) (hini : (Jvm.Cond.initialized "java/lang/System").before args s = true)
    {a0 a1 : Nat} {cs cd : Cell} {k0 k1 : Class} {cm0 cm1 : ClassId} {ty0 ty1 : FieldType} (hc0 : H[a0]? = some cs) (hc1 : H[a1]? = some cd) (hv0 : cs.vm = .none) (hv1 : cd.vm = .none) (hk0 : s.vm.classes[cs.cls]? = some k0) (hk1 : s.vm.classes[cd.cls]? = some k1) (hkk0 : k0.kind = .array cm0 ty0) (hkk1 : k1.kind = .array cm1 ty1) (hty : ((refKind ty0 != refKind ty1) || (!refKind ty0 && ty0 != ty1)) = false)
    {sp dp k : Int32} (h1 : 0 ≤ sp) (h2 : 0 ≤ dp) (h3 : 0 ≤ k) (h4 : sp.toNatClampNeg + k.toNatClampNeg ≤ cs.slots.size) (h5 : dp.toNatClampNeg + k.toNatClampNeg ≤ cd.slots.size)
    (hvals : ∀ T : State, T.heap = H → ∀ vm', s.vm.Alike vm' → ∀ i, i < k.toNatClampNeg → fits ty1 (cs.slots.getD (sp.toNatClampNeg + i) .null) = true ∧ (T.setVm vm').takes cm1 (cs.slots.getD (sp.toNatClampNeg + i) .null))
    (hframes : 1 ≤ R.frames) (hlocals : (r.map fun v => v.category).sum + (nativeFrameWords "java/lang/System" "arraycopy" 5 + 11) ≤ R.locals) (hdg : decode cc pc = .ok (.invokestatic index, 3))
    (kk : ∀ (H' : Heap) (L : List Loc), (∀ q ∈ L, q.base = a1) → H'[a1]? = some (copied cs cd sp dp k) → H'.size = H.size → (∀ q, q ≠ a1 → H'[q]? = H[q]?) → W p l e R s m args below meth c H' (locs ++ L) cells slots Q (F0 m (pc + 3) ls r)) : W p l e R s m args below meth c H locs cells slots Q (F0 m pc ls (.int k :: .int dp :: .ref a1 :: .int sp :: .ref a0 :: r)) := by
  intro T hT X
  obtain ⟨vm', X', step⟩ := X.arraycopy hexec hown hlink hnat hstat hini (src := a0) (dst := a1) (cs := cs) (cd := cd) (srcPos := sp) (destPos := dp) (n := k) (by rw [hT]; exact hc0) (by rw [hT]; exact hc1)
    (fun _ h => by rw [hv0] at h; cases h) (fun _ h => by rw [hv1] at h; cases h) (fun h => by rw [hv0] at h; cases h) (fun h => by rw [hv1] at h; cases h) hk0 hk1 hkk0 hkk1 hty (Int32.not_lt.mpr h1) (Int32.not_lt.mpr h2) (Int32.not_lt.mpr h3)
    (by rw [xv_nn h1, xv_nn h3]; omega) (by rw [xv_nn h2, xv_nn h3]; omega) (hvals T hT)
    (g := F0 m pc ls (.int k :: .int dp :: .ref a1 :: .int sp :: .ref a0 :: r)) rfl (by rw [hml]) (rest := r) rfl (by rw [hb]; exact hdg) hframes (by show 2 * 0 + _ + _ ≤ _; omega)
  have hl : a1 < H.size := (Array.getElem?_eq_some_iff.mp hc1).1
  have hheap : ((T.setVm vm').setCell a1 (copied cs cd sp dp k)).heap = H.setIfInBounds a1 (copied cs cd sp dp k) := by rw [← hT]; rfl
  obtain ⟨t, b1, b2⟩ := kk _ _ (fun q hq => by
      obtain ⟨z, -, hz⟩ := List.mem_map.mp hq
      rw [← hz]) (show (H.setIfInBounds a1 _)[a1]? = some _ by simp [Array.getElem?_setIfInBounds, hl]) (by simp) (fun q hq => by simp [Array.getElem?_setIfInBounds, Ne.symm hq]) _ hheap X'
  exact ⟨t, step t b1, b2⟩
theorem xs_copyi {idx : Nat} {sp dp k : Int32} (hC : xv_Cx p R s m args meth c cc w cl aty WS stt sx sc own nL n0 z0 nE zE) (hd : decode cc pc = .ok (.invokestatic idx, 3)) (hlink : Jvm.Cond.methodLink own idx arraycopyName ∈ WS) (hnat : Jvm.Cond.native arraycopyName ∈ WS) (hstat : Jvm.Cond.static arraycopyName ∈ WS) (hini : Jvm.Cond.initialized "java/lang/System" ∈ WS) (hty : aty[0]? = some .int) (hE : n ≤ nE) (ha : a < n) (hb0 : b < n) (hta : tg a = 100) (htb : tg b = 100)
    (h1 : 0 ≤ sp) (h2 : 0 ≤ dp) (h3 : 0 ≤ k) (h4 : sp.toNatClampNeg + k.toNatClampNeg ≤ ln a) (h5 : dp.toNatClampNeg + k.toNatClampNeg ≤ ln b) (hroom : xv_room st = true) (hF : 1 ≤ R.frames) (hLo : 8 + (nativeFrameWords "java/lang/System" "arraycopy" 5 + 11) ≤ R.locals)
    (hG : xv_G p l e R s m args below meth c Q w cl rk lg nL n0 z0 (pc + 3, L, st, (n, z, tg, ln, fr, er, fi, xv_cpy ei a sp.toNatClampNeg b dp.toNatClampNeg k.toNatClampNeg, el))) : xv_G p l e R s m args below meth c Q w cl rk lg nL n0 z0 (pc, L, .int k :: .int dp :: .ref b :: .int sp :: .ref a :: st, (n, z, tg, ln, fr, er, fi, ei, el)) := by
  intro ls H locs hl hR hS g1 g2
  obtain ⟨⟨hx, hb, hml, hown, hts⟩, ⟨hK, hA⟩, ⟨hr1, hr2, hr3, hr4⟩, -⟩ := hC
  have hal : xv_al w a = w.1 + a := xv_al_lt (by omega)
  have hbl : xv_al w b = w.1 + b := xv_al_lt (by omega)
  obtain ⟨c0, p1, p2, p3, p4, p5⟩ := hR.arr ha (j := 0) hta
  obtain ⟨c1, q1, q2, q3, q4, q5⟩ := hR.arr hb0 (j := 0) htb
  have e0 := hR.arrV ha (j := 0) hta p1
  have e1 := hR.arrV hb0 (j := 0) htb q1
  have f0 : ∀ b, (fun i => xv_ev w (n, z, tg, ln, fr, er, fi, ei, el) (100 + 0) b i) = fun i => .int (ei b i) := fun b => by funext i; simp [xv_ev]
  obtain ⟨-, k0, hk0, cm0, hkk0⟩ := xv_arr_is (hA 0 _ hty).1 p3 p2
  obtain ⟨-, k1, hk1, cm1, hkk1⟩ := xv_arr_is (hA 0 _ hty).1 q3 q2
  have hcs := xv_room_spec hroom
  simp only [List.map_cons, xv_cv, hal, hbl]
  refine xw_copy hx hb (by rw [hml]; exact hl.1.1.symm) hown (hts _ hlink) (hts _ hnat) (hts _ hstat) (hts _ hini) p1 q1 p2 q2 hk0 hk1 hkk0 hkk1 (by decide) h1 h2 h3 (by rw [p4]; exact h4) (by rw [q4]; exact h5) (fun T hT vm' hvm i hi => ?_) hF (by rw [xv_cats]; omega) hd fun H' L g3 g4 g5 g6 => ?_
  · have e : c0.slots.getD (sp.toNatClampNeg + i) .null = .int (ei a (sp.toNatClampNeg + i)) := by
      rw [Array.getD_eq_getD_getElem?, p5 _ (by simp only; omega)]
      simp [xv_ev]
    rw [e]
    exact ⟨rfl, trivial⟩
  · have hcell : copied c0 c1 sp dp k = arrV (w.2.2.2.2.1 0) (ln b) (fun j => .int (va_cpy (ei a) (ei b) sp.toNatClampNeg dp.toNatClampNeg k.toNatClampNeg j)) := by
      rw [e0, e1]
      simp only [f0]
      exact va_copied (fun z => .int z) _ _ (ei a) (ei b) h4
    rw [hcell] at g4
    refine hG ls H' _ hl (hR.set (h' := (n, z, tg, ln, fr, er, fi, xv_cpy ei a sp.toNatClampNeg b dp.toNatClampNeg k.toNatClampNeg, el)) rfl g5 g6 g4 ⟨rfl, Or.inr ⟨by simp only [htb]; omega, ?_⟩⟩ fun b' cb hb' hne hcb => hcb.keep rfl rfl (fun g => rfl) (fun t i => ?_)) ⟨by rw [g5]; exact hS.1, fun q d1 d2 => (g6 q (fun z => d2 (by rw [z]; exact Nat.le_add_right _ _))).trans (hS.2.1 q d1 d2), fun q hq => ?_⟩ g1 g2
    · simp only [htb]
      congr 1
      funext i
      simp [xv_ev, xv_cpy, va_cpy]
    · simp only [xv_ev, xv_cpy, hne, false_and, if_false]
    · rcases List.mem_append.mp hq with d | d
      · exact hS.2.2 q d
      · rw [g3 q d]; exact Nat.le_add_right _ _
theorem xs_copyr {idx j cj : Nat} {C : String} {q : vw_C} {sp dp k : Int32} (hC : xv_Cx p R s m args meth c cc w cl aty WS stt sx sc own nL n0 z0 nE zE) (hd : decode cc pc = .ok (.invokestatic idx, 3)) (hlink : Jvm.Cond.methodLink own idx arraycopyName ∈ WS) (hnat : Jvm.Cond.native arraycopyName ∈ WS) (hstat : Jvm.Cond.static arraycopyName ∈ WS) (hini : Jvm.Cond.initialized "java/lang/System" ∈ WS) (hty : aty[j]? = some (.object C)) (hj : 4 ≤ j) (hq : cl[cj]? = some q) (hcj : cj < 100) (hca : C = q.1 ∨ (q.1, C) ∈ sx.1) (hE : n ≤ nE) (ha : a < n) (hb0 : b < n) (hta : tg a = 100 + j) (htb : tg b = 100 + j)
    (h1 : 0 ≤ sp) (h2 : 0 ≤ dp) (h3 : 0 ≤ k) (h4 : sp.toNatClampNeg + k.toNatClampNeg ≤ ln a) (h5 : dp.toNatClampNeg + k.toNatClampNeg ≤ ln b) (hel : ∀ i, i < k.toNatClampNeg → ∀ b', er a (sp.toNatClampNeg + i) = some b' → b' < n ∧ tg b' = cj) (hroom : xv_room st = true) (hF : 1 ≤ R.frames) (hLo : 8 + (nativeFrameWords "java/lang/System" "arraycopy" 5 + 11) ≤ R.locals)
    (hG : xv_G p l e R s m args below meth c Q w cl rk lg nL n0 z0 (pc + 3, L, st, (n, z, tg, ln, fr, xv_cpy er a sp.toNatClampNeg b dp.toNatClampNeg k.toNatClampNeg, fi, ei, el))) : xv_G p l e R s m args below meth c Q w cl rk lg nL n0 z0 (pc, L, .int k :: .int dp :: .ref b :: .int sp :: .ref a :: st, (n, z, tg, ln, fr, er, fi, ei, el)) := by
  intro ls H locs hl hR hS g1 g2
  obtain ⟨⟨hx, hb, hml, hown, hts⟩, ⟨hK, hA⟩, ⟨hr1, hr2, hr3, hr4⟩, -, hXE, -⟩ := hC
  have hal : xv_al w a = w.1 + a := xv_al_lt (by omega)
  have hbl : xv_al w b = w.1 + b := xv_al_lt (by omega)
  obtain ⟨c0, p1, p2, p3, p4, p5⟩ := hR.arr ha hta
  obtain ⟨c1, q1, q2, q3, q4, q5⟩ := hR.arr hb0 htb
  have e0 := hR.arrV ha (j := j) hta p1
  have e1 := hR.arrV hb0 (j := j) htb q1
  have f0 : ∀ b, (fun i => xv_ev w (n, z, tg, ln, fr, er, fi, ei, el) (100 + j) b i) = fun i => va_rf ((er b i).map (xv_al w)) := fun b => by
    funext i
    unfold xv_ev
    rw [if_neg (by omega), if_pos (by omega), xv_cv_rf]
  obtain ⟨-, k0, hk0, cm0, hkk0⟩ := xv_arr_is (hA j _ hty).1 p3 p2
  obtain ⟨-, k1, hk1, cm1, hkk1⟩ := xv_arr_is (hA j _ hty).1 q3 q2
  have hcs := xv_room_spec hroom
  simp only [List.map_cons, xv_cv, hal, hbl]
  refine xw_copy hx hb (by rw [hml]; exact hl.1.1.symm) hown (hts _ hlink) (hts _ hnat) (hts _ hstat) (hts _ hini) p1 q1 p2 q2 hk0 hk1 hkk0 hkk1 rfl h1 h2 h3 (by rw [p4]; exact h4) (by rw [q4]; exact h5) (fun T hT vm' hvm i hi => ?_) hF (by rw [xv_cats]; omega) hd fun H' L g3 g4 g5 g6 => ?_
  · have e : c0.slots.getD (sp.toNatClampNeg + i) .null = va_rf ((er a (sp.toNatClampNeg + i)).map (xv_al w)) := by
      rw [Array.getD_eq_getD_getElem?, p5 _ (by simp only; omega)]
      exact congrFun (f0 a) _
    rw [e]
    cases hy : er a (sp.toNatClampNeg + i) with
    | none => exact ⟨rfl, trivial⟩
    | some b' =>
      obtain ⟨d1, d2⟩ := hel i hi b' hy
      obtain ⟨cellV, d3, d4, d5⟩ := hR.obj d1 d2 hcj
      have hcls := (hK.1 cj q hq).2
      obtain ⟨kA, comp, r1, r2, r3, -⟩ := (hA j _ hty).2
      rw [q3] at hk1
      cases hk1.symm.trans r1
      cases hkk1.symm.trans r2
      obtain ⟨kE, hkE, -⟩ := Vm.findClass_spec r3
      obtain ⟨kC, hkC, -⟩ := hcls.2
      have hasg : s.vm.assignable (w.2.2.2.1.1 cj) cm1 = true := by
        rcases hca with hca | hca
        · subst hca
          cases r3.symm.trans hcls.1
          exact va_assign hcls
        · obtain ⟨c0, t1, f1, f2, f3⟩ := Cond.castable_spec (va_Nw.use (A := args) rfl (hXE.1 _ hca))
          cases hcls.1.symm.trans f1
          cases r3.symm.trans f2
          exact f3
      obtain ⟨kC', hkC', -⟩ := hvm.2.2 _ _ hkC
      obtain ⟨kE', hkE', -⟩ := hvm.2.2 _ _ hkE
      have hbl' : xv_al w b' = w.1 + b' := xv_al_lt (by omega)
      refine ⟨rfl, ?_⟩
      show (T.setVm vm').takes cm1 (.ref (xv_al w b'))
      refine ⟨cellV, (show T.heap[xv_al w b']? = some cellV by rw [hT, hbl']; exact d3), (fun q h => by rw [d4] at h; cases h), ⟨kC', by rw [d5]; exact hkC'⟩, ⟨kE', hkE'⟩, ?_⟩
      show vm'.assignable _ _ = true
      rw [hvm.assignable, d5]
      exact hasg
  · have hcell : copied c0 c1 sp dp k = arrV (w.2.2.2.2.1 j) (ln b) (fun i => va_rf ((va_cpy (er a) (er b) sp.toNatClampNeg dp.toNatClampNeg k.toNatClampNeg i).map (xv_al w))) := by
      rw [e0, e1]
      simp only [f0]
      exact va_copied (fun o => va_rf (o.map (xv_al w))) _ _ (er a) (er b) h4
    rw [hcell] at g4
    refine hG ls H' _ hl (hR.set (h' := (n, z, tg, ln, fr, xv_cpy er a sp.toNatClampNeg b dp.toNatClampNeg k.toNatClampNeg, fi, ei, el)) rfl g5 g6 g4 ⟨rfl, Or.inr ⟨by simp only [htb]; omega, ?_⟩⟩ fun b' cb hb' hne hcb => hcb.keep rfl rfl (fun g => rfl) (fun t i => ?_)) ⟨by rw [g5]; exact hS.1, fun q d1 d2 => (g6 q (fun z => d2 (by rw [z]; exact Nat.le_add_right _ _))).trans (hS.2.1 q d1 d2), fun q hq => ?_⟩ g1 g2
    · simp only [htb, Nat.add_sub_cancel_left]
      congr 1
      funext i
      unfold xv_ev
      rw [if_neg (by omega), if_pos (by omega), xv_cv_rf]
      simp only [xv_cpy, va_cpy, true_and]
    · simp only [xv_ev, xv_cpy, hne, false_and, if_false]
    · rcases List.mem_append.mp hq with d | d
      · exact hS.2.2 q d
      · rw [g3 q d]; exact Nat.le_add_right _ _
/-- clone of an array of ints -/
theorem xs_clone {idx : Nat} (hC : xv_Cx p R s m args meth c cc w cl aty WS stt sx sc own nL n0 z0 nE zE) (hd : decode cc pc = .ok (.invokevirtual idx, 3)) (hlink : Jvm.Cond.methodLink own idx ⟨"[I", "clone", "()Ljava/lang/Object;"⟩ ∈ WS) (hsame : Jvm.Cond.sameMethod "[I" "java/lang/Object" "clone" "()Ljava/lang/Object;" ∈ WS)
    (hnat : Jvm.Cond.native ⟨"java/lang/Object", "clone", "()Ljava/lang/Object;"⟩ ∈ WS) (hinst : Jvm.Cond.instanceMethod ⟨"java/lang/Object", "clone", "()Ljava/lang/Object;"⟩ ∈ WS) (hsel : Jvm.Cond.selects "[I" ⟨"[I", "clone", "()Ljava/lang/Object;"⟩ ⟨"java/lang/Object", "clone", "()Ljava/lang/Object;"⟩ ∈ WS) (hcl : ("[I", "java/lang/Cloneable") ∈ sx.1)
    (hty : aty[0]? = some .int) (hE : n + 1 ≤ nE) (hZ : z + ln a ≤ zE) (ha : a < n) (hta : tg a = 100) (hroom : xv_room st = true) (hF : 1 ≤ R.frames) (hLo : 22 ≤ R.locals)
    (hG : xv_G p l e R s m args below meth c Q w cl rk lg nL n0 z0 (pc + 3, L, .ref n :: st, (n + 1, z + ln a, xv_u1 tg n 100, xv_u1 ln n (ln a), xv_freshF fr n none, xv_fresh er n none, xv_freshF fi n 0, (fun b i => if b = n then xv_fresh ei n 0 a i else xv_fresh ei n 0 b i), xv_fresh el n 0))) : xv_G p l e R s m args below meth c Q w cl rk lg nL n0 z0 (pc, L, .ref a :: st, (n, z, tg, ln, fr, er, fi, ei, el)) := by
  intro ls H locs hl hR hS g1 g2
  obtain ⟨⟨hx, hb, hml, hown, hts⟩, ⟨hK, hA⟩, ⟨hr1, hr2, hr3, hr4⟩, -, hXE, -⟩ := hC
  simp only at g1 g2
  have hal : xv_al w a = w.1 + a := xv_al_lt (by omega)
  obtain ⟨c0, p1, p2, p3, p4, p5⟩ := hR.arr ha (j := 0) hta
  have hcs := xv_room_spec hroom
  obtain ⟨d0, t0', f1, f2, f3⟩ := Cond.castable_spec (va_Nw.use (A := args) rfl (hXE.1 _ hcl))
  have hnm : s.vm.findClass "[I" = some (w.2.2.2.2.1 0) := va_nm_int (hA 0 _ hty).2
  cases hnm.symm.trans f1
  show W p l e R s m args below meth c H locs (n - n0) (z - z0) Q (F0 m pc ls (.ref (xv_al w a) :: st.map (xv_cv (xv_al w))))
  intro T hT X
  obtain ⟨-, kA, hkA, comp, hkind⟩ := State.isArrayOf_alike X.warmed.alike ((hA 0 _ hty).1 0 (fun _ => .null))
  obtain ⟨-, kS, hkS, compS, hkindS⟩ := (hA 0 _ hty).1 0 (fun _ => .null)
  have e0 := hR.arrV ha (j := 0) hta p1
  have hcc : ({ cls := c0.cls, slots := c0.slots } : Cell) = c0 := by rw [e0]; rfl
  have hsz : c0.slots.size = ln a := p4
  rw [hal]
  obtain ⟨vm', X', stp⟩ := X.cloneArray hx hown (hts _ hlink) (hts _ hsame) (hts _ hnat) (hts _ hinst) (hts _ hsel) (a := w.1 + a) (cell := c0) (by rw [hT]; exact p1) (fun k h => by rw [p2] at h; cases h) (by rw [p2]; exact fun h => by cases h) (by rw [p3]; exact hnm) f2 (by rw [p3]; exact f3)
    (fun i v hv => by
      have hi : i < ln a := by rw [← hsz]; exact (Array.getElem?_eq_some_iff.mp hv).1
      rw [p5 i hi] at hv
      have e : v = .int (ei a i) := by
        have := Option.some.inj hv
        rw [← this]; simp [xv_ev]
      rw [p3, e]
      have hk' : T.vm.classes[w.2.2.2.2.1 0]? = some kA := hkA
      simp [State.fitsSlot, State.slotType?, hk', hkind, fits])
    (g := F0 m pc ls (.ref (w.1 + a) :: st.map (xv_cv (xv_al w)))) rfl (by rw [hml]; exact hl.1.1) rfl (by rw [hb]; exact hd) hF (by rw [xv_cats]; show 2 * 0 + _ + 14 ≤ _; omega) (by omega) (by rw [hsz]; omega) (hloader := by rw [p3]; exact Vm.clonesLoader_of_array hkS hkindS)
  rw [hcc, hsz] at X'
  have hat : xv_at w cl rk (n + 1, z + ln a, xv_u1 tg n 100, xv_u1 ln n (ln a), xv_freshF fr n none, xv_fresh er n none, xv_freshF fi n 0, (fun b i => if b = n then xv_fresh ei n 0 a i else xv_fresh ei n 0 b i), xv_fresh el n 0) n c0 := by
    refine ⟨p2, Or.inr ⟨by simp [xv_u1], ?_⟩⟩
    rw [e0]
    have hne : ¬ a = n := by omega
    simp only [xv_u1, if_true]
    congr 1
    funext i
    simp [xv_ev, xv_fresh, hne]
  have hR' := hR.push (h' := (n + 1, z + ln a, xv_u1 tg n 100, xv_u1 ln n (ln a), xv_freshF fr n none, xv_fresh er n none, xv_freshF fi n 0, (fun b i => if b = n then xv_fresh ei n 0 a i else xv_fresh ei n 0 b i), xv_fresh el n 0)) (H' := H.push c0) rfl (by simp) (fun q hq => by rw [Array.getElem?_push, if_neg (Nat.ne_of_lt hq)]) (by simp) hat (fun b cb hb hcb => by
    have hne : ¬ b = n := by simp only at hb; omega
    refine hcb.keep ?_ ?_ (fun f => ?_) (fun t i => ?_)
    · simp only [xv_u1, if_neg hne]
    · simp only [xv_u1, if_neg hne]
    · simp only [xv_fv, xv_freshF, if_neg hne]
    · simp only [xv_ev, xv_fresh, if_neg hne])
  have hg := hG ls _ locs hl hR' (xv_S.push hS (by simp) (fun q hq => by rw [Array.getElem?_push, if_neg (Nat.ne_of_lt hq)])) (by simp only; omega) (by simp only; omega)
  have haln : xv_al w n = H.size := by rw [xv_al_lt (by omega)]; exact hR.1.symm
  simp only [List.map_cons, xv_cv, haln] at hg
  rw [show n + 1 - n0 = n - n0 + 1 by omega, show z + ln a - z0 = z - z0 + ln a by omega] at hg
  obtain ⟨t, b1, b2⟩ := hg ((T.setVm vm').pushCell c0) (by rw [← hT]; rfl) X'
  refine ⟨t, stp t ?_, b2⟩
  rw [hcc, hT]
  exact b1
/-- Object's own start -/
theorem xs_objInit {idx : Nat} {h : xv_H} (hC : xv_Cx p R s m args meth c cc w cl aty WS stt sx sc own nL n0 z0 nE zE) (hd : decode cc pc = .ok (.invokespecial idx, 3)) (hlink : Jvm.Cond.methodLink own idx Lib.objectInit ∈ WS) (hinst : Jvm.Cond.instanceMethod Lib.objectInit ∈ WS) (hcode : Jvm.Cond.code Lib.objectInit ⟨#[0xb1]⟩ 1 none ∈ WS) (hroom : xv_room st = true) (hF : 1 ≤ R.frames) (hLo : 20 ≤ R.locals)
    (hG : xv_G p l e R s m args below meth c Q w cl rk lg nL n0 z0 (pc + 3, L, st, h)) : xv_G p l e R s m args below meth c Q w cl rk lg nL n0 z0 (pc, L, .ref a :: st, h) := by
  intro ls H locs hl hR hS g1 g2
  obtain ⟨⟨hx, hb, hml, hown, hts⟩, -⟩ := hC
  have hcs := xv_room_spec hroom
  exact W.objInit hx hb hown (hts _ hlink) (hts _ hinst) (hts _ hcode) rfl (by rw [hml]; exact hl.1.1) (rest := st.map (xv_cv (xv_al w))) rfl hd hF (by rw [xv_cats]; show 2 * 0 + _ + 12 ≤ _; omega) (hG ls H locs hl hR hS g1 g2)
/-- the Class of Object[] -/
theorem xs_getC {j idx : Nat} (hC : xv_Cx p R s m args meth c cc w cl aty WS stt sx sc own nL n0 z0 nE zE) (hd : decode cc pc = .ok (.invokevirtual idx, 3)) (hlink : Jvm.Cond.methodLink own idx ⟨"java/lang/Object", "getClass", "()Ljava/lang/Class;"⟩ ∈ WS) (hsel : Jvm.Cond.selects "[Ljava/lang/Object;" ⟨"java/lang/Object", "getClass", "()Ljava/lang/Class;"⟩ ⟨"java/lang/Object", "getClass", "()Ljava/lang/Class;"⟩ ∈ WS) (hinst : Jvm.Cond.instanceMethod ⟨"java/lang/Object", "getClass", "()Ljava/lang/Class;"⟩ ∈ WS) (hnat : Jvm.Cond.native ⟨"java/lang/Object", "getClass", "()Ljava/lang/Class;"⟩ ∈ WS)
    (hty : aty[j]? = some (.object "java/lang/Object")) (hE : n ≤ nE) (ha : a < n) (hta : tg a = 100 + j) (hroom : xv_room st = true) (hF : 1 ≤ R.frames) (hLo : 22 ≤ R.locals)
    (hG : xv_G p l e R s m args below meth c Q w cl rk lg nL n0 z0 (pc + 3, L, .ref (xv_SB + 1) :: st, (n, z, tg, ln, fr, er, fi, ei, el))) : xv_G p l e R s m args below meth c Q w cl rk lg nL n0 z0 (pc, L, .ref a :: st, (n, z, tg, ln, fr, er, fi, ei, el)) := by
  intro ls H locs hl hR hS g1 g2
  obtain ⟨⟨hx, hb, hml, hown, hts⟩, ⟨hK, hA⟩, ⟨hr1, hr2, hr3, hr4⟩, -, hXE, -⟩ := hC
  have hal : xv_al w a = w.1 + a := xv_al_lt (by omega)
  have hal2 : xv_al w (xv_SB + 1) = w.2.2.1 1 := xv_al_st (by have := hXE.2.2.2.2.2; omega)
  obtain ⟨c0, p1, p2, p3, p4, p5⟩ := hR.arr ha hta
  have hcs := xv_room_spec hroom
  have hg := hG ls H locs hl hR hS g1 g2
  simp only [List.map_cons, xv_cv, hal, hal2] at hg ⊢
  have hnm : s.vm.findClass "[Ljava/lang/Object;" = some (w.2.2.2.2.1 j) := va_nmO (hA j _ hty).2 (by decide)
  exact va_getC hx hb (by rw [hml]; exact hl.1.1.symm) hown (hts _ hlink) (va_Dc.use hXE.2.2.2.2.1) (hts _ hsel) (hts _ hinst) (hts _ hnat) hXE.2.2.2.1 ⟨c0, p1, by rw [p2]; rfl, by rw [p3]; exact hnm⟩ hF (by rw [xv_cats]; omega) hd hg
theorem xs_ldcM {idx : Nat} {h : xv_H} (hC : xv_Cx p R s m args meth c cc w cl aty WS stt sx sc own nL n0 z0 nE zE) (hd : decode cc pc = .ok (.ldc idx, 2)) (hlink : Jvm.Cond.classLink own idx "[Ljava/lang/Object;" ∈ WS) (hG : xv_G p l e R s m args below meth c Q w cl rk lg nL n0 z0 (pc + 2, L, .ref (xv_SB + 1) :: st, h)) : xv_G p l e R s m args below meth c Q w cl rk lg nL n0 z0 (pc, L, st, h) := by
  intro ls H locs hl hR hS g1 g2
  obtain ⟨⟨hx, hb, hml, hown, hts⟩, -, -, -, hXE, -⟩ := hC
  have hal2 : xv_al w (xv_SB + 1) = w.2.2.1 1 := xv_al_st (by have := hXE.2.2.2.2.2; omega)
  have hg := hG ls H locs hl hR hS g1 g2
  simp only [List.map_cons, xv_cv, hal2] at hg
  exact va_ldcM hx hb hown (hts _ hlink) hXE.2.2.2.1 hd hg
theorem xs_min {idx : Nat} {h : xv_H} {x y : Int32} (hC : xv_Cx p R s m args meth c cc w cl aty WS stt sx sc own nL n0 z0 nE zE) (hd : decode cc pc = .ok (.invokestatic idx, 3)) (hlink : Jvm.Cond.methodLink own idx Lib.Math.min.name ∈ WS) (hstat : Jvm.Cond.static Lib.Math.min.name ∈ WS) (hini : Jvm.Cond.initialized "java/lang/Math" ∈ WS) (hcode : Jvm.Cond.code Lib.Math.min.name Lib.Math.min.code 2 (some .int) ∈ WS) (hroom : xv_room st = true) (hF : 1 ≤ R.frames) (hLo : 22 ≤ R.locals) (hE : h.1 ≤ nE) (hZ : h.2.1 ≤ zE)
    (hG : xv_G p l e R s m args below meth c Q w cl rk lg nL n0 z0 (pc + 3, L, .int (if y < x then y else x) :: st, h)) : xv_G p l e R s m args below meth c Q w cl rk lg nL n0 z0 (pc, L, .int y :: .int x :: st, h) := by
  intro ls H locs hl hR hS g1 g2
  obtain ⟨⟨hx, hb, hml, hown, hts⟩, -, ⟨hr1, hr2, hr3, hr4⟩, -, -, -⟩ := hC
  have hcs := xv_room_spec hroom
  simp only at g1 g2
  show W p l e R s m args below meth c H locs (h.1 - n0) (h.2.1 - z0) Q (F0 m pc ls (.int y :: .int x :: st.map (xv_cv (xv_al w))))
  exact va_mmin hx hb (by rw [hml]; exact hl.1.1.symm) hown (hts _ hlink) (hts _ hstat) (hts _ hini) (hts _ hcode) hF (by rw [xv_cats]; omega) (by omega) (by omega) hd (hG ls H locs hl hR hS g1 g2)
theorem xs_max {idx : Nat} {h : xv_H} {x y : Int32} (hC : xv_Cx p R s m args meth c cc w cl aty WS stt sx sc own nL n0 z0 nE zE) (hd : decode cc pc = .ok (.invokestatic idx, 3)) (hlink : Jvm.Cond.methodLink own idx Lib.Math.max.name ∈ WS) (hstat : Jvm.Cond.static Lib.Math.max.name ∈ WS) (hini : Jvm.Cond.initialized "java/lang/Math" ∈ WS) (hcode : Jvm.Cond.code Lib.Math.max.name Lib.Math.max.code 2 (some .int) ∈ WS) (hroom : xv_room st = true) (hF : 1 ≤ R.frames) (hLo : 22 ≤ R.locals) (hE : h.1 ≤ nE) (hZ : h.2.1 ≤ zE)
    (hG : xv_G p l e R s m args below meth c Q w cl rk lg nL n0 z0 (pc + 3, L, .int (if x < y then y else x) :: st, h)) : xv_G p l e R s m args below meth c Q w cl rk lg nL n0 z0 (pc, L, .int y :: .int x :: st, h) := by
  intro ls H locs hl hR hS g1 g2
  obtain ⟨⟨hx, hb, hml, hown, hts⟩, -, ⟨hr1, hr2, hr3, hr4⟩, -, -, -⟩ := hC
  have hcs := xv_room_spec hroom
  simp only at g1 g2
  show W p l e R s m args below meth c H locs (h.1 - n0) (h.2.1 - z0) Q (F0 m pc ls (.int y :: .int x :: st.map (xv_cv (xv_al w))))
  exact va_mmax hx hb (by rw [hml]; exact hl.1.1.symm) hown (hts _ hlink) (hts _ hstat) (hts _ hini) (hts _ hcode) hF (by rw [xv_cats]; omega) (by omega) (by omega) hd (hG ls H locs hl hR hS g1 g2)
end XC
