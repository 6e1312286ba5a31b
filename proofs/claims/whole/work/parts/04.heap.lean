/-! Fields, arrays, new cells. -/
theorem xv_at.keep {w : xv_W} {cl : List vw_C} {rk : Nat → Bool} {h h' : xv_H} {a : Nat} {cell : Cell} (hc : xv_at w cl rk h a cell) (ht : h'.2.2.1 a = h.2.2.1 a) (hl : h'.2.2.2.1 a = h.2.2.2.1 a)
    (hf : ∀ f, xv_fv w rk h' f a = xv_fv w rk h f a) (he : ∀ t i, xv_ev w h' t a i = xv_ev w h t a i) : xv_at w cl rk h' a cell := by
  obtain ⟨h0, h1 | h1⟩ := hc
  · obtain ⟨q1, q2, q, q3, q4⟩ := h1
    refine ⟨h0, Or.inl ⟨by rw [ht]; exact q1, by rw [ht]; exact q2, q, by rw [ht]; exact q3, fun k hk => ?_⟩⟩
    rw [ht, hf]; exact q4 k hk
  · obtain ⟨q1, q2⟩ := h1
    refine ⟨h0, Or.inr ⟨by rw [ht]; exact q1, ?_⟩⟩
    rw [ht, hl, q2]
    congr 1
    funext i
    exact (he _ i).symm
/-- one cell changes -/
theorem xv_R.set {w : xv_W} {cl : List vw_C} {rk : Nat → Bool} {h h' : xv_H} {H H' : Heap} {a : Nat} {cell : Cell} (hR : xv_R w cl rk h H) (hn : h'.1 = h.1) (hz : H'.size = H.size) (ho : ∀ q, q ≠ w.1 + a → H'[q]? = H[q]?) (hc : H'[w.1 + a]? = some cell) (hat : xv_at w cl rk h' a cell)
    (hk : ∀ (b : Nat) (cb : Cell), b < h.1 → b ≠ a → xv_at w cl rk h b cb → xv_at w cl rk h' b cb) : xv_R w cl rk h' H' := by
  obtain ⟨h1, h2, h3⟩ := hR
  refine ⟨by rw [hz, hn]; exact h1, fun q hq => by rw [ho q (by omega)]; exact h2 q hq, fun b hb => ?_⟩
  rw [hn] at hb
  by_cases hba : b = a
  · subst hba
    exact ⟨cell, hc, hat⟩
  · obtain ⟨cb, e1, e2⟩ := h3 b hb
    exact ⟨cb, by rw [ho _ (by omega)]; exact e1, hk b cb hb hba e2⟩
/-- one cell comes -/
theorem xv_R.push {w : xv_W} {cl : List vw_C} {rk : Nat → Bool} {h h' : xv_H} {H H' : Heap} {cell : Cell} (hR : xv_R w cl rk h H) (hn : h'.1 = h.1 + 1) (hz : H'.size = H.size + 1) (ho : ∀ q, q < H.size → H'[q]? = H[q]?) (hc : H'[H.size]? = some cell) (hat : xv_at w cl rk h' h.1 cell)
    (hk : ∀ (b : Nat) (cb : Cell), b < h.1 → xv_at w cl rk h b cb → xv_at w cl rk h' b cb) : xv_R w cl rk h' H' := by
  obtain ⟨h1, h2, h3⟩ := hR
  refine ⟨by rw [hz, hn, h1]; omega, fun q hq => by rw [ho q (by omega)]; exact h2 q hq, fun b hb => ?_⟩
  rw [hn] at hb
  by_cases hba : b = h.1
  · subst hba
    exact ⟨cell, by rw [← h1]; exact hc, hat⟩
  · obtain ⟨cb, e1, e2⟩ := h3 b (by omega)
    exact ⟨cb, by rw [ho _ (by rw [h1]; omega)]; exact e1, hk b cb (by omega) e2⟩
theorem xv_S.push {A : Nat → Prop} {H0 H H1 : Heap} {locs : List Loc} (h : va_S A H0 H locs) (z : H1.size = H.size + 1) (ho : ∀ q, q < H.size → H1[q]? = H[q]?) : va_S A H0 H1 locs :=
  ⟨by rw [z]; exact Nat.le_succ_of_le h.1, fun q h1 h2 => (ho q (Nat.lt_of_lt_of_le h1 h.1)).trans (h.2.1 q h1 h2), h.2.2⟩
theorem xv_up_ne {β : Type} {f : Nat → Nat → β} {x y a b : Nat} {v : β} (h : ¬ (a = x ∧ b = y)) : xv_up f x y v a b = f a b := if_neg h
theorem xv_up_eq {β : Type} {f : Nat → Nat → β} {x y : Nat} {v : β} : xv_up f x y v x y = v := if_pos ⟨rfl, rfl⟩
theorem xv_arr_is {U : State} {cA : ClassId} {ty : FieldType} (h : ArrOfT U cA ty) {cell : Cell} (h1 : cell.cls = cA) (h2 : cell.vm = .none) : U.isArrayOf cell ty := by
  have h3 := h 0 (fun _ => .null)
  obtain ⟨c, sl, vm⟩ := cell
  simp only at h1 h2
  subst h1; subst h2
  exact h3
section XH
variable {p : Program} {l : Launch} {e : Env} {R : Room} {s : State} {m : MethodId} {args : Array Value} {below : List Frame} {meth : Method} {c : Code} {Q : State → Prop} {cc : ByteArray} {w : xv_W} {cl : List vw_C} {rk : Nat → Bool} {aty : List FieldType} {WS : List Jvm.Cond} {stt : List (String × String × String)} {sx : xv_X} {sc : Nat × (Nat → Int32)} {own : String} {nL n0 z0 nE zE : Nat} {lg : List Nat} {pc : Nat} {L : xv_L} {st r : List Value} {n z : Nat} {tg ln : Nat → Nat} {fr er : Nat → Nat → Option Nat} {fi ei : Nat → Nat → Int32} {el : Nat → Nat → Int64} {x y i : Int32} {u v : Int64} {a b : Nat}
/-- getfield: class ci, field k -/
theorem xs_getf {ci k idx : Nat} {q : vw_C} {ref : String} (hC : xv_Cx p R s m args meth c cc w cl aty WS stt sx sc own nL n0 z0 nE zE) (hd : decode cc pc = .ok (.getfield idx, 3)) (hq : cl[ci]? = some q) (hws : ∀ x ∈ u_ws q.1 q.2.1 q.2.2, x ∈ WS) (hci : ci < 100) (hk : k < q.2.2) (hlink : Jvm.Cond.fieldLink own idx ref (q.2.1 k).2.1 (q.2.1 k).2.2.1 ∈ WS) (hsame : ref = (q.2.1 k).1 ∨ Jvm.Cond.sameField ref (q.2.1 k).1 (q.2.1 k).2.1 (q.2.1 k).2.2.1 ∈ WS)
    (hE : n ≤ nE) (ha : a < n) (ht : tg a = ci)
    (hG : xv_G p l e R s m args below meth c Q w cl rk lg nL n0 z0 (pc + 3, L, (if rk (100 * ci + k) = true then va_rf (fr (100 * ci + k) a) else .int (fi (100 * ci + k) a)) :: st, (n, z, tg, ln, fr, er, fi, ei, el))) : xv_G p l e R s m args below meth c Q w cl rk lg nL n0 z0 (pc, L, .ref a :: st, (n, z, tg, ln, fr, er, fi, ei, el)) := by
  intro ls H locs hl hR hS h1 h2
  obtain ⟨⟨hx, hb, hml, hown, hts⟩, ⟨hK, hA⟩, ⟨hr1, hr2, hr3, hr4⟩, -⟩ := hC
  have hal : xv_al w a = w.1 + a := xv_al_lt (by omega)
  obtain ⟨cell, q1, q2, q3 | q3⟩ := hR.2.2 a ha
  · obtain ⟨q4, q5, q', q6, q7⟩ := q3
    simp only [ht] at q4 q5 q6 q7
    cases q6.symm.trans hq
    obtain ⟨hSl, hfc, kC, hkC, hkind⟩ := hK.1 ci _ hq
    obtain ⟨cf, kf, fj, f, hi, hsl⟩ := hSl k hk
    have hi' : s.fieldFound? ref (q.2.1 k).2.1 (q.2.1 k).2.2.1 = some (cf, kf, fj, f) := by
      rcases hsame with h | h
      · rw [h]; exact hi
      · exact u_same (hts _ h) _ hi
    have hv := q7 k hk
    refine W.getf hx hb hown (hts _ hlink) hi' (u_facts hfc hkC (u_lays hts hws hk) hi).1 (a := w.1 + a) q1 (by rw [q2]; exact fun h => by cases h) (v := xv_fv w rk (n, z, tg, ln, fr, er, fi, ei, el) (100 * ci + k) a) (by rw [hsl]; exact hv) rfl (rest := st.map (xv_cv (xv_al w))) (by simp only [List.map_cons, xv_cv, hal]) hd ?_
    have hg := hG ls H locs hl hR hS h1 h2
    simp only [List.map_cons] at hg
    have e : xv_cv (xv_al w) (if rk (100 * ci + k) = true then va_rf (fr (100 * ci + k) a) else .int (fi (100 * ci + k) a)) = xv_fv w rk (n, z, tg, ln, fr, er, fi, ei, el) (100 * ci + k) a := by
      unfold xv_fv
      split <;> rfl
    rw [e] at hg
    exact hg
  · exfalso
    obtain ⟨q4, -⟩ := q3
    simp only [ht] at q4
    omega
/-- putfield: what has changed -/
theorem xv_R.putf {h' : xv_H} {ci k : Nat} {q : vw_C} {H H' : Heap} {cell : Cell} {v0 : Value} (hR : xv_R w cl rk (n, z, tg, ln, fr, er, fi, ei, el) H) (ha : a < n) (ht : tg a = ci) (hci : ci < 100) (hq : cl[ci]? = some q) (hk : k < q.2.2) (hap : ∀ k', k' < q.2.2 → k' ≠ k → w.2.2.2.1.2 ci k' ≠ w.2.2.2.1.2 ci k)
    (hcell : H[w.1 + a]? = some cell) (hH : H'[w.1 + a]? = some (cell.setSlot (w.2.2.2.1.2 ci k) v0)) (hz : H'.size = H.size) (ho : ∀ q, q ≠ w.1 + a → H'[q]? = H[q]?) (e1 : h'.1 = n) (e2 : h'.2.2.1 = tg) (e3 : h'.2.2.2.1 = ln) (hv : xv_fv w rk h' (100 * ci + k) a = v0) (hf : ∀ g b, ¬ (g = 100 * ci + k ∧ b = a) → xv_fv w rk h' g b = xv_fv w rk (n, z, tg, ln, fr, er, fi, ei, el) g b)
    (he : ∀ t b j, xv_ev w h' t b j = xv_ev w (n, z, tg, ln, fr, er, fi, ei, el) t b j) : xv_R w cl rk h' H' := by
  refine hR.set e1 hz ho hH ?_ fun b cb hb hne hcb => hcb.keep (by rw [e2]) (by rw [e3]) (fun g => hf g b (fun z => hne z.2)) (fun t j => he t b j)
  obtain ⟨cell', q1, q2, q3 | q3⟩ := hR.2.2 a ha
  · cases q1.symm.trans hcell
    obtain ⟨q4, q5, q', q6, q7⟩ := q3
    simp only [ht] at q4 q5 q6 q7
    cases q6.symm.trans hq
    refine ⟨q2, Or.inl ⟨by rw [e2, ht]; exact hci, by rw [e2, ht]; exact q5, q, by rw [e2, ht]; exact hq, fun j hj => ?_⟩⟩
    rw [e2, ht]
    by_cases hjk : j = k
    · subst hjk
      rw [hv]
      exact Cell.slots_setSlot_self _ (k2_hasslot (q7 j hj))
    · rw [slot_ne _ _ (Ne.symm (hap j hj hjk)), q7 j hj, hf _ _ (fun z => hjk (by omega))]
  · exfalso
    obtain ⟨q4, -⟩ := q3
    simp only [ht] at q4
    omega
theorem xs_putf {h' : xv_H} {ci k idx : Nat} {q : vw_C} {ref : String} {ty0 : Nat → FieldType} {v0 : Value} (hC : xv_Cx p R s m args meth c cc w cl aty WS stt sx sc own nL n0 z0 nE zE) (hd : decode cc pc = .ok (.putfield idx, 3)) (hq : cl[ci]? = some q) (hws : ∀ x ∈ u_ws q.1 q.2.1 q.2.2, x ∈ WS) (hci : ci < 100) (hk : k < q.2.2) (hlink : Jvm.Cond.fieldLink own idx ref (q.2.1 k).2.1 (q.2.1 k).2.2.1 ∈ WS) (hsame : ref = (q.2.1 k).1 ∨ Jvm.Cond.sameField ref (q.2.1 k).1 (q.2.1 k).2.1 (q.2.1 k).2.2.1 ∈ WS)
    (hty : ∀ k, k < q.2.2 → parseFieldDescriptor (q.2.1 k).2.2.1 = some (ty0 k)) (hnm : ∀ a, a < q.2.2 → ∀ b, b < q.2.2 → a ≠ b → (q.2.1 a).2.1 ≠ (q.2.1 b).2.1) (hfin : (q.2.1 k).2.2.2 = false ∨ ((q.2.1 k).2.2.2 = true ∧ meth.name = "<init>" ∧ (q.2.1 k).1 = own)) (hnar : narrow (ty0 k) (xv_cv (xv_al w) v0) = xv_cv (xv_al w) v0) (hfit : fits (ty0 k) (xv_cv (xv_al w) v0) = true)
    (hE : n ≤ nE) (ha : a < n) (ht : tg a = ci)
    (e1 : h'.1 = n) (e0 : h'.2.1 = z) (e2 : h'.2.2.1 = tg) (e3 : h'.2.2.2.1 = ln) (hv : xv_fv w rk h' (100 * ci + k) a = xv_cv (xv_al w) v0) (hf : ∀ g b, ¬ (g = 100 * ci + k ∧ b = a) → xv_fv w rk h' g b = xv_fv w rk (n, z, tg, ln, fr, er, fi, ei, el) g b) (he : ∀ t b j, xv_ev w h' t b j = xv_ev w (n, z, tg, ln, fr, er, fi, ei, el) t b j)
    (hG : xv_G p l e R s m args below meth c Q w cl rk lg nL n0 z0 (pc + 3, L, st, h')) : xv_G p l e R s m args below meth c Q w cl rk lg nL n0 z0 (pc, L, v0 :: .ref a :: st, (n, z, tg, ln, fr, er, fi, ei, el)) := by
  intro ls H locs hl hR hS h1 h2
  obtain ⟨⟨hx, hb, hml, hown, hts⟩, ⟨hK, hA⟩, ⟨hr1, hr2, hr3, hr4⟩, -⟩ := hC
  have hal : xv_al w a = w.1 + a := xv_al_lt (by omega)
  have hap := va_apart (own := own) hts hws ty0 hty hnm hK hq
  obtain ⟨cell, q1, q2, q3 | q3⟩ := hR.2.2 a ha
  · obtain ⟨q4, q5, q', q6, q7⟩ := q3
    simp only [ht] at q4 q5 q6 q7
    cases q6.symm.trans hq
    obtain ⟨hSl, hfc, kC, hkC, hkind⟩ := hK.1 ci _ hq
    obtain ⟨cf, kf, fj, f, hi, hsl⟩ := hSl k hk
    have hi' : s.fieldFound? ref (q.2.1 k).2.1 (q.2.1 k).2.2.1 = some (cf, kf, fj, f) := by
      rcases hsame with h | h
      · rw [h]; exact hi
      · exact u_same (hts _ h) _ hi
    have hst := (u_facts hfc hkC (u_lays hts hws hk) hi).1
    have hlay := hts _ (hws _ (u_in_lay hk))
    unfold u_lay at hlay
    have kk : ∀ H' : Heap, H'[w.1 + a]? = some (cell.setSlot f.slot (xv_cv (xv_al w) v0)) → H'.size = H.size → (∀ q, q ≠ w.1 + a → H'[q]? = H[q]?) → W p l e R s m args below meth c H' (locs ++ [⟨w.1 + a, f.slot⟩]) (n - n0) (z - z0) Q (F0 m (pc + 3) ls (st.map (xv_cv (xv_al w)))) := by
      intro H' g1 g2 g3
      rw [hsl] at g1
      have hR' : xv_R w cl rk h' H' := hR.putf ha ht hci hq hk (fun k' hk' hne => hap k' k hk' hk hne) q1 g1 g2 g3 e1 e2 e3 hv hf he
      have := hG ls H' _ hl hR' (hS.put g2 g3 (k := f.slot) (Nat.le_add_right _ _)) (by simp only [e1]; exact h1) (by simp only [e0]; exact h2)
      simp only [e1, e0] at this
      exact this
    have hlt : f.slot < cell.slots.size := by rw [hsl]; exact k2_hasslot (q7 k hk)
    have hstk : (F0 m pc ls ((v0 :: Value.ref a :: st).map (xv_cv (xv_al w)))).stack = xv_cv (xv_al w) v0 :: .ref (w.1 + a) :: st.map (xv_cv (xv_al w)) := by simp only [List.map_cons, xv_cv, hal]
    rcases hfin with hfin | ⟨hfin, hin, hdecl⟩
    · rw [if_neg (by rw [hfin]; decide)] at hlay
      have h6 := u_store hfc hkC hkind hlay hi (hty k hk) hnar hfit
      exact W.putK hx hb (f := f) ⟨hown, hts _ hlink, ⟨_, _, _, hi'⟩, hst⟩ (by rw [q5]; exact h6) q1 q2 hlt rfl hstk hd kk
    · rw [if_pos hfin] at hlay
      have hcf : m.cls = cf := by
        obtain ⟨_, _, c', _, _, _, -, -, hf', -, -, -, hown2, -⟩ := Cond.laysFinal_spec hlay
        have e1 : c' = cf := by have := hi.symm.trans hf'; simp at this; exact this.1.symm
        rw [hdecl] at hown2
        rw [← e1]; exact Option.some.inj (hown.symm.trans hown2)
      have h6 := u_fits hfc hkC hkind (Or.inr hlay) hi (hty k hk) hnar hfit
      exact W.putFinK hx hb hown (hts _ hlink) hi' hst hcf hin (by rw [q5]; exact h6) q1 q2 hlt rfl hstk hd kk
  · exfalso
    obtain ⟨q4, -⟩ := q3
    simp only [ht] at q4
    omega
end XH
