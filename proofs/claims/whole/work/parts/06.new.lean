/-! New cells, copies. -/
theorem xv_new_keep {w : xv_W} {cl : List vw_C} {rk : Nat → Bool} {n z t m k : Nat} {tg ln : Nat → Nat} {fr er : Nat → Nat → Option Nat} {fi ei : Nat → Nat → Int32} {el : Nat → Nat → Int64} {b : Nat} {cb : Cell} (hb : b < n) (hc : xv_at w cl rk (n, z, tg, ln, fr, er, fi, ei, el) b cb) : xv_at w cl rk (xv_new (n, z, tg, ln, fr, er, fi, ei, el) t m k) b cb := by
  have hne : ¬ b = n := by omega
  refine hc.keep ?_ ?_ (fun f => ?_) (fun t i => ?_)
  · simp only [xv_new, xv_u1, if_neg hne]
  · simp only [xv_new, xv_u1, if_neg hne]
  · simp only [xv_fv, xv_new, xv_freshF, if_neg hne]
  · simp only [xv_ev, xv_new, xv_fresh, if_neg hne]
section XN
variable {p : Program} {l : Launch} {e : Env} {R : Room} {s : State} {m : MethodId} {args : Array Value} {below : List Frame} {meth : Method} {c : Code} {Q : State → Prop} {cc : ByteArray} {w : xv_W} {cl : List vw_C} {rk : Nat → Bool} {aty : List FieldType} {WS : List Jvm.Cond} {stt : List (String × String × String)} {sx : xv_X} {sc : Nat × (Nat → Int32)} {own : String} {nL n0 z0 nE zE : Nat} {lg : List Nat} {pc : Nat} {L : xv_L} {st r : List Value} {n z : Nat} {tg ln : Nat → Nat} {fr er : Nat → Nat → Option Nat} {fi ei : Nat → Nat → Int32} {el : Nat → Nat → Int64} {x y i : Int32} {u v : Int64} {a b : Nat}
theorem xs_new {ci idx : Nat} {q : vw_C} {ty0 : Nat → FieldType} (hC : xv_Cx p R s m args meth c cc w cl aty WS stt sx sc own nL n0 z0 nE zE) (hd : decode cc pc = .ok (.new idx, 3)) (hq : cl[ci]? = some q) (hci : ci < 100) (hws : ∀ x ∈ u_ws q.1 q.2.1 q.2.2, x ∈ WS) (hlink : Jvm.Cond.classLink own idx q.1 ∈ WS) (hins : Jvm.Cond.instantiable q.1 q.2.2 ∈ WS) (hini : Jvm.Cond.initialized q.1 ∈ WS)
    (hty : ∀ k, k < q.2.2 → parseFieldDescriptor (q.2.1 k).2.2.1 = some (ty0 k)) (hdf : ∀ k, k < q.2.2 → defaultValue (ty0 k) = if rk (100 * ci + k) = true then .null else .int 0) (hE : n + 1 ≤ nE) (hZ : z + q.2.2 ≤ zE)
    (hG : xv_G p l e R s m args below meth c Q w cl rk lg nL n0 z0 (pc + 3, L, .ref n :: st, xv_new (n, z, tg, ln, fr, er, fi, ei, el) ci 0 q.2.2)) : xv_G p l e R s m args below meth c Q w cl rk lg nL n0 z0 (pc, L, st, (n, z, tg, ln, fr, er, fi, ei, el)) := by
  intro ls H locs hl hR hS h1 h2
  obtain ⟨⟨hx, hb, hml, hown, hts⟩, ⟨hK, hA⟩, ⟨hr1, hr2, hr3, hr4⟩, -⟩ := hC
  simp only at h1 h2
  have hKn := hK.1 ci _ hq
  show W p l e R s m args below meth c H locs (n - n0) (z - z0) Q (F0 m pc ls (st.map (xv_cv (xv_al w))))
  refine W.newcK hx hb hown (hts _ hlink) (hts _ hins) (hts _ hini) rfl hd (by omega) (by omega) hKn.2.1 rfl fun H1 kC hkC g1 g2 g3 => ?_
  obtain ⟨cell, c1, c2, c3, c4⟩ := u_born ty0 hts hws hKn hkC g1 hty
  have hat : xv_at w cl rk (xv_new (n, z, tg, ln, fr, er, fi, ei, el) ci 0 q.2.2) n cell := by
    have et : (xv_new (n, z, tg, ln, fr, er, fi, ei, el) ci 0 q.2.2).2.2.1 n = ci := by simp [xv_new, xv_u1]
    refine ⟨c3, Or.inl ⟨by rw [et]; exact hci, by rw [et]; exact c2, q, by rw [et]; exact hq, fun k hk => ?_⟩⟩
    rw [et, c4 k hk]
    show some (defaultValue (ty0 k)) = _
    rw [hdf k hk]
    simp only [xv_fv, xv_new, xv_freshF, if_true]
    split <;> rfl
  have hR' := hR.push (h' := xv_new (n, z, tg, ln, fr, er, fi, ei, el) ci 0 q.2.2) rfl g2 g3 c1 hat (fun b cb hb hcb => xv_new_keep hb hcb)
  have hg := hG ls H1 locs hl hR' (xv_S.push hS g2 g3) (by simp only [xv_new]; omega) (by simp only [xv_new]; omega)
  have hal : xv_al w n = H.size := by rw [xv_al_lt (by omega)]; exact hR.1.symm
  simp only [xv_new, List.map_cons, xv_cv, hal] at hg
  rw [show n + 1 - n0 = n - n0 + 1 by omega, show z + q.2.2 - z0 = z - z0 + q.2.2 by omega] at hg
  exact hg
theorem xv_new_arr {j k : Nat} {cell : Cell} {v0 : Value} (h1 : cell = { cls := w.2.2.2.2.1 j, slots := Array.replicate k v0, vm := .none }) (hv : ∀ b i, xv_ev w (xv_new (n, z, tg, ln, fr, er, fi, ei, el) (100 + j) k k) (100 + j) n i = v0 ∨ b = b + 1) : xv_at w cl rk (xv_new (n, z, tg, ln, fr, er, fi, ei, el) (100 + j) k k) n cell := by
  have et : (xv_new (n, z, tg, ln, fr, er, fi, ei, el) (100 + j) k k).2.2.1 n = 100 + j := by simp [xv_new, xv_u1]
  have el' : (xv_new (n, z, tg, ln, fr, er, fi, ei, el) (100 + j) k k).2.2.2.1 n = k := by simp [xv_new, xv_u1]
  refine ⟨by rw [h1], Or.inr ⟨by rw [et]; omega, ?_⟩⟩
  rw [et, el', Nat.add_sub_cancel_left, h1, arrV_new]
  congr 1
  funext i
  rcases hv 0 i with h | h
  · exact h.symm
  · omega
theorem xs_newa {j : Nat} {atype : ClassFile.ArrayType} (hC : xv_Cx p R s m args meth c cc w cl aty WS stt sx sc own nL n0 z0 nE zE) (hd : decode cc pc = .ok (.newarray atype, 2)) (hty : aty[j]? = some (newarray.typeOf atype)) (hword : Jvm.Cond.arrayClass (newarray.typeOf atype) ∈ WS) (hj : (j = 3 ∧ newarray.typeOf atype = .long) ∨ (j < 3 ∧ defaultValue (newarray.typeOf atype) = .int 0 ∧ componentBytes (newarray.typeOf atype) ≤ 4)) (h0 : 0 ≤ x) (hx0 : x.toNatClampNeg ≤ 60000000) (hE : n + 1 ≤ nE) (hZ : z + x.toNatClampNeg ≤ zE)
    (hG : xv_G p l e R s m args below meth c Q w cl rk lg nL n0 z0 (pc + 2, L, .ref n :: st, xv_new (n, z, tg, ln, fr, er, fi, ei, el) (100 + j) x.toNatClampNeg x.toNatClampNeg)) : xv_G p l e R s m args below meth c Q w cl rk lg nL n0 z0 (pc, L, .int x :: st, (n, z, tg, ln, fr, er, fi, ei, el)) := by
  intro ls H locs hl hR hS h1 h2
  obtain ⟨⟨hx, hb, hml, hown, hts⟩, ⟨hK, hA⟩, ⟨hr1, hr2, hr3, hr4⟩, -⟩ := hC
  simp only at h1 h2
  have hbytes : x.toNatClampNeg * componentBytes (newarray.typeOf atype) ≤ 536870912 := by
    rcases hj with ⟨-, q⟩ | ⟨-, -, q⟩
    · rw [q]
      show x.toNatClampNeg * 8 ≤ _
      omega
    · have := Nat.mul_le_mul hx0 q
      omega
  show W p l e R s m args below meth c H locs (n - n0) (z - z0) Q (F0 m pc ls (.int x :: st.map (xv_cv (xv_al w))))
  refine W.newa (rest := st.map (xv_cv (xv_al w))) hx hb (hts _ hword) rfl hd rfl (Int32.not_lt.mpr h0) hbytes (by omega) (by omega) fun cA kA comp f1 f2 f3 => ?_
  have hcA : cA = w.2.2.2.2.1 j := by
    have h3 : s.vm.findClass ("[" ++ (newarray.typeOf atype).toString) = some (w.2.2.2.2.1 j) := by
      have := (hA j _ hty).2
      cases atype <;> exact this
    exact Option.some.inj (f1.symm.trans h3)
  have hat : xv_at w cl rk (xv_new (n, z, tg, ln, fr, er, fi, ei, el) (100 + j) x.toNatClampNeg x.toNatClampNeg) n { cls := cA, slots := Array.replicate x.toNatClampNeg (defaultValue (newarray.typeOf atype)), vm := .none } := by
    refine xv_new_arr (by rw [hcA]) fun _ i => Or.inl ?_
    rcases hj with ⟨q1, q2⟩ | ⟨q1, q2, -⟩
    · subst q1
      rw [q2]
      simp [xv_ev, xv_new, xv_fresh, defaultValue]
    · rw [q2]
      unfold xv_ev
      rw [if_neg (by omega), if_neg (by omega)]
      simp [xv_new, xv_fresh]
  have hR' := hR.push (h' := xv_new (n, z, tg, ln, fr, er, fi, ei, el) (100 + j) x.toNatClampNeg x.toNatClampNeg) (H' := H.push { cls := cA, slots := Array.replicate x.toNatClampNeg (defaultValue (newarray.typeOf atype)), vm := .none }) rfl (by simp) (fun q hq => by rw [Array.getElem?_push, if_neg (Nat.ne_of_lt hq)]) (by simp) hat (fun b cb hb hcb => xv_new_keep hb hcb)
  have hg := hG ls _ locs hl hR' (xv_S.push hS (by simp) (fun q hq => by rw [Array.getElem?_push, if_neg (Nat.ne_of_lt hq)])) (by simp only [xv_new]; omega) (by simp only [xv_new]; omega)
  have hal : xv_al w n = H.size := by rw [xv_al_lt (by omega)]; exact hR.1.symm
  simp only [xv_new, List.map_cons, xv_cv, hal] at hg
  rw [show n + 1 - n0 = n - n0 + 1 by omega, show z + x.toNatClampNeg - z0 = z - z0 + x.toNatClampNeg by omega] at hg
  exact hg
theorem xs_anew {j idx : Nat} {C : String} (hC : xv_Cx p R s m args meth c cc w cl aty WS stt sx sc own nL n0 z0 nE zE) (hd : decode cc pc = .ok (.anewarray idx, 3)) (hty : aty[j]? = some (.object C)) (hj : 4 ≤ j) (hlink : Jvm.Cond.classLink own idx C ∈ WS) (hover : C ∈ sx.2.1) (h0 : 0 ≤ x) (hx0 : x.toNatClampNeg ≤ 60000000) (hE : n + 1 ≤ nE) (hZ : z + x.toNatClampNeg ≤ zE)
    (hG : xv_G p l e R s m args below meth c Q w cl rk lg nL n0 z0 (pc + 3, L, .ref n :: st, xv_new (n, z, tg, ln, fr, er, fi, ei, el) (100 + j) x.toNatClampNeg x.toNatClampNeg)) : xv_G p l e R s m args below meth c Q w cl rk lg nL n0 z0 (pc, L, .int x :: st, (n, z, tg, ln, fr, er, fi, ei, el)) := by
  intro ls H locs hl hR hS h1 h2
  obtain ⟨⟨hx, hb, hml, hown, hts⟩, ⟨hK, hA⟩, ⟨hr1, hr2, hr3, hr4⟩, -, hXE, -⟩ := hC
  simp only at h1 h2
  show W p l e R s m args below meth c H locs (n - n0) (z - z0) Q (F0 m pc ls (.int x :: st.map (xv_cv (xv_al w))))
  refine W.anew (rest := st.map (xv_cv (xv_al w))) hx hb hown (hts _ hlink) (va_AO.use (hXE.2.1 _ hover)) rfl hd rfl (Int32.not_lt.mpr h0) (by omega) (by omega) (by omega) fun cA kA comp f1 f2 f3 f4 => ?_
  have hcA : cA = w.2.2.2.2.1 j := by
    obtain ⟨_, _, -, -, -, h3⟩ := (hA j _ hty).2
    exact Option.some.inj (f1.symm.trans h3)
  have hat : xv_at w cl rk (xv_new (n, z, tg, ln, fr, er, fi, ei, el) (100 + j) x.toNatClampNeg x.toNatClampNeg) n { cls := cA, slots := Array.replicate x.toNatClampNeg .null, vm := .none } := by
    refine xv_new_arr (by rw [hcA]) fun _ i => Or.inl ?_
    unfold xv_ev
    rw [if_neg (by omega), if_pos (by omega)]
    simp [xv_new, xv_fresh, va_rf, xv_cv]
  have hR' := hR.push (h' := xv_new (n, z, tg, ln, fr, er, fi, ei, el) (100 + j) x.toNatClampNeg x.toNatClampNeg) (H' := H.push { cls := cA, slots := Array.replicate x.toNatClampNeg .null, vm := .none }) rfl (by simp) (fun q hq => by rw [Array.getElem?_push, if_neg (Nat.ne_of_lt hq)]) (by simp) hat (fun b cb hb hcb => xv_new_keep hb hcb)
  have hg := hG ls _ locs hl hR' (xv_S.push hS (by simp) (fun q hq => by rw [Array.getElem?_push, if_neg (Nat.ne_of_lt hq)])) (by simp only [xv_new]; omega) (by simp only [xv_new]; omega)
  have hal : xv_al w n = H.size := by rw [xv_al_lt (by omega)]; exact hR.1.symm
  simp only [xv_new, List.map_cons, xv_cv, hal] at hg
  rw [show n + 1 - n0 = n - n0 + 1 by omega, show z + x.toNatClampNeg - z0 = z - z0 + x.toNatClampNeg by omega] at hg
  exact hg
end XN
