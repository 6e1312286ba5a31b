/-! The machine does what the abstract one does: by the number of steps. -/
section XZ
variable {p : Program} {l : Launch} {e : Env} {R : Room} {s : State} {m : MethodId} {args : Array Value} {below : List Frame} {meth : Method} {c : Code} {Q : State → Prop} {w : xv_W} {cl : List vw_C} {rk : Nat → Bool} {aty : List FieldType} {WS : List Jvm.Cond} {stt : List (String × String × String)} {sx : xv_X} {sc : Nat × (Nat → Int32)} {tyf : Nat → Nat → FieldType} {cp cs : Nat → Nat} {yL : Nat} {mt : List xv_M} {cd : Nat → Nat → Option xv_I} {lgs : Nat → List Nat} {mx : Nat → Nat} {M : xv_M} {pc : Nat} {ic : xv_I} {L : xv_L} {st : List Value} {h h' : xv_H} {n0 z0 : Nat} {lg : List Nat}
theorem xv_inv_grows {x : xv_N} (ha : xv_inv cp cs lgs mx ic pc L st h = some (.inl x)) : h.1 ≤ x.2.2.2.1 ∧ h.2.1 ≤ x.2.2.2.2.1 := by
  obtain ⟨I, r, q⟩ := ic
  obtain ⟨n, z, tg, ln, fr, er, fi, ei, el⟩ := h
  cases I <;> simp only [xv_inv, xv_r1, xv_i2, xv_call, xv_copy, xv_clone, xv_new, xv_nx, Option.map_some, Option.map_none] at ha <;> (repeat' split at ha) <;> first | (cases ha; exact ⟨Nat.le_refl _, Nat.le_refl _⟩) | (cases ha; exact ⟨Nat.le_succ _, Nat.le_add_right _ _⟩) | cases ha
/-- what the machine does itself -/
theorem xv_own {x : xv_N} (hC : xv_Cx p R s m args meth c M.2.1 w cl aty WS stt sx sc M.1.cls M.2.2.1 n0 z0 h'.1 h'.2.1) (hd : xv_dec M.2.1 pc ic.1) (hT : xv_okC cl tyf rk aty WS) (hok : xv_okJ yL sx mt cl aty cp cs WS M ic) (hRf : M.2.2.2.2.1 ≤ R.frames) (hRl : M.2.2.2.2.2 ≤ R.locals) (hE : x.2.2.2.1 ≤ h'.1) (hZ : x.2.2.2.2.1 ≤ h'.2.1) (ha : xv_inv cp cs lgs mx ic pc L st h = some (.inl x)) (hG : xv_G p l e R s m args below meth c Q w cl rk lg M.2.2.1 n0 z0 x) : xv_G p l e R s m args below meth c Q w cl rk lg M.2.2.1 n0 z0 (pc, L, st, h) := by
  obtain ⟨I, r, q⟩ := ic
  obtain ⟨n, z, tg, ln, fr, er, fi, ei, el⟩ := h
  cases I
  case invokestatic i =>
    simp only [xv_inv] at ha
    split at ha
    · rename_i hr
      simp only [xv_okJ, hr, if_true] at hok
      obtain ⟨k1, k1', k2, k3, k4, k5, k6⟩ := hok
      have hF : 1 ≤ R.frames := by omega
      have hLo : 8 + (nativeFrameWords "java/lang/System" "arraycopy" 5 + 11) ≤ R.locals := by
        have : nativeFrameWords "java/lang/System" "arraycopy" 5 = 7 := by decide
        omega
      split at ha
      · simp only [xv_copy] at ha
        split at ha
        · rename_i hc
          obtain ⟨⟨c1, c2⟩, ⟨c3, c4, c5⟩, ⟨c6, c7⟩, c8⟩ := hc
          split at ha
          · rename_i hc
            cases ha
            exact xs_copyi hC (hd.at rfl) k2 k3 k4 k5 hT.2.1 hE c1 c2 hc.1 hc.2.1 c3 c4 c5 c6 c7 c8 hF hLo hG
          · split at ha
            · rename_i hc
              cases ha
              obtain ⟨j, C, q0, e1, e2, e3, e4, e5⟩ := k6 hc.2.2.1
              refine xs_copyr hC (hd.at rfl) k2 k3 k4 k5 e2 (by have := hc.2.2.1; omega) e3 e4 e5 hE c1 c2 (by rw [← e1]; exact hc.1) (by rw [← e1]; exact hc.2.1) c3 c4 c5 c6 c7 ?_ c8 hF hLo hG
              intro i hi b' hb'
              have := hc.2.2.2 i hi
              simp only [hb', xv_ok, decide_eq_true_eq] at this
              rw [hc.2.1] at this
              exact this
            · cases ha
        · cases ha
      · cases ha
    · rename_i hr
      simp only [xv_okJ, if_neg hr] at hok
      split at ha
      · rename_i hr2
        rw [if_pos hr2] at hok
        obtain ⟨k1, k1', k2, k3, k4, k5⟩ := hok
        obtain ⟨u1, u2, t, rfl, hb1⟩ := xv_i2_inv ha
        split at hb1
        · rename_i hc
          cases hb1
          exact xs_min hC (hd.at rfl) k2 k3 k4 k5 hc (by omega) (by omega) hE hZ hG
        · cases hb1
      · rename_i hr2
        rw [if_neg hr2] at hok
        split at ha
        · rename_i hr3
          rw [if_pos hr3] at hok
          obtain ⟨k1, k1', k2, k3, k4, k5⟩ := hok
          obtain ⟨u1, u2, t, rfl, hb1⟩ := xv_i2_inv ha
          split at hb1
          · rename_i hc
            cases hb1
            exact xs_max hC (hd.at rfl) k2 k3 k4 k5 hc (by omega) (by omega) hE hZ hG
          · cases hb1
        · split at ha
          · cases ha
          · simp only [xv_call] at ha
            split at ha <;> cases ha
  case invokespecial i =>
    simp only [xv_inv] at ha
    split at ha
    · rename_i hr
      simp only [xv_okJ, hr, if_true] at hok
      obtain ⟨k1, k1', k2, k3, k4⟩ := hok
      obtain ⟨a, t, rfl, hb1⟩ := xv_r1_inv ha
      split at hb1
      · rename_i hc
        cases hb1
        exact xs_objInit hC (hd.at rfl) k2 k3 k4 hc (by omega) (by omega) hG
      · cases hb1
    · split at ha
      · cases ha
      · obtain ⟨a, t, e1, hb1⟩ := xv_r1_inv ha
        simp only [xv_call] at hb1
        split at hb1 <;> cases hb1
  case invokevirtual i =>
    simp only [xv_inv] at ha
    split at ha
    · rename_i hr
      simp only [xv_okJ, hr, if_true] at hok
      obtain ⟨k1, k1', k2, k3, k4, k5, k6, k7⟩ := hok
      obtain ⟨a, t, rfl, hb1⟩ := xv_r1_inv ha
      simp only [xv_clone] at hb1
      split at hb1
      · rename_i hc
        simp only [xv_new] at hb1
        cases hb1
        exact xs_clone hC (hd.at rfl) k2 k3 k4 k5 k6 k7 hT.2.1 hE hZ hc.1 hc.2.1 hc.2.2 (by omega) (by omega) hG
      · cases hb1
    · rename_i hr
      simp only [xv_okJ, if_neg hr] at hok
      split at ha
      · rename_i hr2
        rw [if_pos hr2] at hok
        obtain ⟨k1, k1', ⟨j, k2, k3⟩, k4, k5, k6, k7⟩ := hok
        obtain ⟨a, t, rfl, hb1⟩ := xv_r1_inv ha
        split at hb1
        · rename_i hc
          cases hb1
          exact xs_getC hC (hd.at rfl) k4 k5 k6 k7 k3 hE hc.1 (hc.2.1.trans k2) hc.2.2 (by omega) (by omega) hG
        · cases hb1
      · split at ha
        · cases ha
        · obtain ⟨a, t, e1, hb1⟩ := xv_r1_inv ha
          split at hb1
          · simp only [xv_call] at hb1
            split at hb1 <;> cases hb1
          · cases hb1
  all_goals cases ha
theorem xv_words (hgood : ∀ x ∈ WS, (x.onTables && x.keeps) = true ∨ ∃ ty, x = .arrayClass ty) (hts : ∀ x ∈ WS, x.before args s = true) {y : Jvm.Cond} (hy : y ∈ WS) : ∀ x ∈ y :: WS, ∀ (a' : Array Value) (U : State), s.WarmedH U.vm → x.before a' U = true := by
  intro x hx a' U hW
  have hx' : x ∈ WS := by
    rcases List.mem_cons.mp hx with h | h
    · rw [h]; exact hy
    · exact h
  exact word_at hW (hgood x hx') (hts x hx')
theorem xv_callB {M' : xv_M} {i q mc ms : Nat} (hgood : ∀ x ∈ WS, (x.onTables && x.keeps) = true ∨ ∃ ty, x = .arrayClass ty) (hts : ∀ x ∈ WS, x.before args s = true) (hrk : M'.2.2.2.2.1 < M.2.2.2.2.1) (hlw : 19 + M'.2.2.1 + M'.2.2.2.2.2 ≤ M.2.2.2.2.2) (hRf : M.2.2.2.2.1 ≤ R.frames) (hRl : M.2.2.2.2.2 ≤ R.locals) (h2 : Jvm.Cond.code M'.1 M'.2.1 M'.2.2.1 M'.2.2.2.1 ∈ WS) (h3 : Jvm.Cond.initialized M'.1.cls ∈ WS) (h4 : M'.1.cls ≠ "java/lang/invoke/MethodHandle" ∧ M'.1.cls ≠ "java/lang/invoke/VarHandle") (h5 : Jvm.Cond.methodLink M.1.cls i M'.1 ∈ WS) (h6 : (parseMethodDescriptor M'.1.desc).map (fun d => d.parameters.length) = some q) :
    CallB R s args M.1.cls i M'.1 M'.2.1 M'.2.2.1 M'.2.2.2.1 (Jvm.Cond.code M'.1 M'.2.1 M'.2.2.1 M'.2.2.2.1 :: WS) (xv_rm M'.2.2.2.2 mc ms) mc ms q := by
  refine ⟨rfl, rfl, by simp only [xv_rm]; omega, by simp only [xv_rm]; omega, xv_words hgood hts h2, List.mem_cons_self, hts _ h2, hts _ h3, h4, fun sig hs => ?_, hts _ h5⟩
  rw [hs] at h6
  exact (Option.some.inj h6).symm
end XZ
section XY
variable {l : Launch} {w : xv_W} {cl : List vw_C} {rk : Nat → Bool} {aty : List FieldType} {WS : List Jvm.Cond} {stt : List (String × String × String)} {sx : xv_X} {sc : Nat × (Nat → Int32)} {tyf : Nat → Nat → FieldType} {cp cs : Nat → Nat} {yL : Nat} {mt : List xv_M} {cd : Nat → Nat → Option xv_I} {lgs : Nat → List Nat} {mx : Nat → Nat}
/-- the stack at a call -/
theorem xv_stk (al : Nat → Nat) (st : List Value) (q : Nat) : st.map (xv_cv al) = (((st.take q).reverse).map (xv_cv al)).reverse ++ (st.drop q).map (xv_cv al) := by
  rw [List.map_reverse, List.reverse_reverse, ← List.map_append, List.take_append_drop]
theorem xv_sound (hTb : xv_Tab yL sx mt cl tyf rk aty cp cs WS stt cd mx) (hwo : w.1 ≤ w.2.2.2.2.2.size) (hI : ∀ a b, xv_cmp a b → xv_al w a = xv_al w b → a = b) : ∀ f : Nat, xv_Sound l w cl rk aty WS stt sx sc cp cs mt cd lgs mx f
  | 0 => fun y pc L st h r h' hx => by cases hx
  | f + 1 => by
    have ih := xv_sound hTb hwo hI f
    intro y pc L st h r h' hx
    rw [xv_exec] at hx
    cases hc : cd y pc with
    | none => rw [hc] at hx; cases hx
    | some ic =>
      simp only [hc] at hx
      split at hx
      · cases ha : xv_act sc cp (lgs y) ic pc L st h with
        | none => rw [ha] at hx; cases hx
        | some x =>
          simp only [ha] at hx
          obtain ⟨⟨m1, m2⟩, hs⟩ := ih _ _ _ _ _ _ _ hx
          obtain ⟨g1, g2⟩ := xv_act_grows ha
          refine ⟨⟨Nat.le_trans g1 m1, Nat.le_trans g2 m2⟩, fun M hM p e R s m args below meth c Q n0 z0 hC hmn hRf hRl hK hHo hRet => ?_⟩
          obtain ⟨-, -, t7⟩ := hTb.2.2 y M hM
          obtain ⟨d1, d2, d3⟩ := t7 pc ic hc
          exact xv_plain hC d1 hTb.1 d2 hmn hI m1 m2 ha (hs M hM p e R s m args below meth c Q n0 z0 hC hmn hRf hRl hK hHo hRet)
      · rename_i hk
        cases ha : xv_ret ic st with
        | none => rw [ha] at hx; cases hx
        | some r0 =>
          simp only [ha] at hx
          cases hx
          exact ⟨⟨Nat.le_refl _, Nat.le_refl _⟩, fun M hM p e R s m args below meth c Q n0 z0 hC hmn hRf hRl hK hHo hRet ls H locs hl hR hS _ _ => hRet pc ic L st ls H locs hc hk ha hl hR hS⟩
      · cases ha : xv_inv cp cs lgs mx ic pc L st h with
        | none => rw [ha] at hx; cases hx
        | some b =>
          simp only [ha] at hx
          rcases b with x | k
          · simp only at hx
            obtain ⟨⟨m1, m2⟩, hs⟩ := ih _ _ _ _ _ _ _ hx
            obtain ⟨g1, g2⟩ := xv_inv_grows ha
            refine ⟨⟨Nat.le_trans g1 m1, Nat.le_trans g2 m2⟩, fun M hM p e R s m args below meth c Q n0 z0 hC hmn hRf hRl hK hHo hRet => ?_⟩
            obtain ⟨-, -, t7⟩ := hTb.2.2 y M hM
            obtain ⟨d1, d2, d3⟩ := t7 pc ic hc
            exact xv_own hC d1 hTb.1 d3 hRf hRl m1 m2 ha (hs M hM p e R s m args below meth c Q n0 z0 hC hmn hRf hRl hK hHo hRet)
          · simp only at hx
            cases hc2 : xv_exec sc cd cp cs lgs mx f k.1 0 (xv_ent (mx k.1) k.2.1) [] h with
            | none => rw [hc2] at hx; cases hx
            | some q1 =>
              obtain ⟨r1, h1⟩ := q1
              simp only [hc2] at hx
              obtain ⟨⟨g1, g2⟩, -⟩ := ih _ _ _ _ _ _ _ hc2
              obtain ⟨⟨m1, m2⟩, hs⟩ := ih _ _ _ _ _ _ _ hx
              refine ⟨⟨Nat.le_trans g1 m1, Nat.le_trans g2 m2⟩, fun M hM p e R s m args below meth c Q n0 z0 hC hmn hRf hRl hK hHo hRet => ?_⟩
              obtain ⟨-, -, t7⟩ := hTb.2.2 y M hM
              obtain ⟨d1, d2, d3⟩ := t7 pc ic hc
              have hG := hs M hM p e R s m args below meth c Q n0 z0 hC hmn hRf hRl hK hHo hRet
              obtain ⟨⟨hex, hb, hml, hown, hts⟩, -, ⟨hr1, hr2, hr3, hr4⟩, -, hXE, -⟩ := hC
              intro ls H locs hl hR hS n1 n2
              simp only at n1 n2 hR
              show W p l e R s m args below meth c H locs (h.1 - n0) (h.2.1 - z0) Q (F0 m pc ls (st.map (xv_cv (xv_al w))))
              -- behind the call
              have back : ∀ (v : Option Value) (st₀ t : State) (locs1 : List Loc) (a : Array Value), (∀ q ∈ locs1, w.1 ≤ q.base) → xv_Qc w cl rk r1 h1 a st₀ (.returned v) t → W p l e R s m args below meth c t.heap locs1 (h.1 - n0 + (h1.1 - h.1)) (h.2.1 - z0 + (h1.2.1 - h.2.1)) Q (F0 m k.2.2.2 ls (v.toList ++ k.2.2.1.map (xv_cv (xv_al w)))) := by
                intro v st₀ t locs1 a hlo hq
                obtain ⟨hv, hR1⟩ := hq
                cases hv
                have hg := hG ls t.heap locs1 hl hR1 ⟨by rw [hR1.1]; have := hS.1; rw [hR.1] at this; omega, fun q _ h2 => by rw [hR1.2.1 q (by omega), hHo q (by omega)], hlo⟩ (by simp only; omega) (by simp only; omega)
                simp only at hg
                rw [show h1.1 - n0 = h.1 - n0 + (h1.1 - h.1) by omega, show h1.2.1 - z0 = h.2.1 - z0 + (h1.2.1 - h.2.1) by omega] at hg
                have e : (r1.toList ++ k.2.2.1).map (xv_cv (xv_al w)) = (r1.map (xv_cv (xv_al w))).toList ++ k.2.2.1.map (xv_cv (xv_al w)) := by cases r1 <;> simp
                rw [e] at hg
                exact hg
              have hpre : ∀ U : State, U.heap = H → s.WarmedH U.vm → ∀ a : List Value, a = k.2.1.map (xv_cv (xv_al w)) → xv_Pc w cl rk aty stt sx sc h k.2.1 a.toArray U := fun U hU hW a ha => ⟨by rw [ha], hK.moved hW, by rw [hU]; exact hR⟩
              obtain ⟨I, ri, qi⟩ := ic
              cases I
              case invokestatic i =>
                simp only [xv_inv] at ha
                split at ha
                · split at ha
                  · cases hcp : xv_copy cp qi (pc + 3) L h _ _ _ _ _ _ <;> rw [hcp] at ha <;> cases ha
                  · cases ha
                · rename_i hr
                  simp only [xv_okJ, if_neg hr] at d3
                  by_cases hm1 : ri = 1004
                  · rw [if_pos hm1] at ha
                    obtain ⟨u1, u2, t, rfl, hb1⟩ := xv_i2_inv ha
                    split at hb1 <;> cases hb1
                  rw [if_neg hm1] at ha d3
                  by_cases hm2 : ri = 1005
                  · rw [if_pos hm2] at ha
                    obtain ⟨u1, u2, t, rfl, hb1⟩ := xv_i2_inv ha
                    split at hb1 <;> cases hb1
                  rw [if_neg hm2] at ha d3
                  obtain ⟨eL, M', e1, e2, e2', e3, e4, e5⟩ := d3
                  split at ha
                  · cases ha
                  · rename_i hlen
                    simp only [xv_call] at ha
                    split at ha
                    · rename_i hcd
                      cases ha
                      obtain ⟨t1, t2, t3, t4⟩ := (hTb.2.2 ri M' e1).1 eL
                      have hM1 := xv_met ih hTb hwo e1 eL hc2 hcd.1 (Nat.le_trans m1 hr3)
                      have cw := xv_callB (R := R) (M := M) (mc := h1.1 - h.1) (ms := h1.2.1 - h.2.1) hTb.2.1 hts e2 e2' hRf hRl t3 t4 t2 e3 e5
                      refine xv_after (va_runS (As := ((st.take qi).reverse).map (xv_cv (xv_al w))) (rest := (st.drop qi).map (xv_cv (xv_al w))) ⟨hex, hb, hml, hown, hts⟩ hM1 ⟨cw, hts _ e4⟩ ⟨xv_Pc_blind, fun U hU hW => hpre U hU hW _ rfl⟩ rfl (by simp; omega) hl.1.1 (xv_stk _ _ _) (by rw [xv_cats]; have := xv_room_spec hcd.2; show 2 * 0 + _ ≤ 8; omega) (d1.at rfl) ⟨by omega, by omega⟩) hS ?_
                      intro v st₀ t locs1 hlo hq
                      exact back v st₀ t locs1 _ hlo hq
                    · cases ha
              case invokespecial i q1 q2 =>
                simp only [xv_inv] at ha
                split at ha
                · obtain ⟨a, t, rfl, hb1⟩ := xv_r1_inv ha
                  split at hb1 <;> cases hb1
                · rename_i hr
                  simp only [xv_okJ, if_neg hr] at d3
                  obtain ⟨eL, M', e1, e2, e2', e0, e6, e3, e4, e5⟩ := d3
                  split at ha
                  · cases ha
                  · rename_i hlen
                    obtain ⟨b, t, hst, hb1⟩ := xv_r1_inv ha
                    simp only [xv_call] at hb1
                    split at hb1
                    · rename_i hcd
                      cases hb1
                      obtain ⟨t1, t2, t3, t4⟩ := (hTb.2.2 ri M' e1).1 eL
                      have hM1 := xv_met ih hTb hwo e1 eL hc2 hcd.1 (Nat.le_trans m1 hr3)
                      obtain ⟨nm, by', ml, rt, rn⟩ := M'
                      simp only at e0
                      subst e0
                      have hpre' : PreS s H (xv_Pc w cl rk aty stt sx sc h (.ref b :: (st.take qi).reverse)) (.ref (xv_al w b) :: ((st.take qi).reverse).map (xv_cv (xv_al w))) := ⟨xv_Pc_blind, fun U hU hW => hpre U hU hW _ rfl⟩
                      have hlen' : (((st.take qi).reverse).map (xv_cv (xv_al w))).length = qi := by simp; omega
                      have hstk : (F0 m pc ls (st.map (xv_cv (xv_al w)))).stack = (((st.take qi).reverse).map (xv_cv (xv_al w))).reverse ++ .ref (xv_al w b) :: t.map (xv_cv (xv_al w)) := by
                        rw [show (F0 m pc ls (st.map (xv_cv (xv_al w)))).stack = _ from xv_stk (xv_al w) st qi, hst]; rfl
                      have hroom : 2 * (F0 m pc ls (st.map (xv_cv (xv_al w)))).monitorRoom + ((t.map (xv_cv (xv_al w))).map fun v => v.category).sum ≤ 8 := by
                        rw [xv_cats]; have := xv_room_spec hcd.2; show 2 * 0 + _ ≤ 8; omega
                      rcases e3 with e3 | ⟨host, e3⟩
                      · have cw := xv_callB (R := R) (M := M) (mc := h1.1 - h.1) (ms := h1.2.1 - h.2.1) hTb.2.1 hts e2 e2' hRf hRl t3 t4 t2 e3 e5
                        refine xv_after (va_runI ⟨hex, hb, hml, hown, hts⟩ hM1 ⟨cw, e6, hts _ e4⟩ hpre' rfl hlen' hl.1.1 hstk hroom (d1.at rfl) ⟨by omega, by omega⟩) hS ?_
                        intro v st₀ t locs1 hlo hq
                        exact back v st₀ t locs1 _ hlo hq
                      · have cw : va_CN R s args M.1.cls i nm host by' ml none (Jvm.Cond.code nm by' ml none :: WS) (xv_rm rn (h1.1 - h.1) (h1.2.1 - h.2.1)) (h1.1 - h.1) (h1.2.1 - h.2.1) qi := by
                          refine ⟨⟨rfl, rfl, by simp only [xv_rm]; simp only at e2; omega, by simp only [xv_rm]; simp only at e2'; omega, xv_words hTb.2.1 hts t3, List.mem_cons_self⟩, hts _ t3, hts _ t4, t2, fun sig hs => ?_, va_Nw.use rfl (hXE.2.2.1 _ e3)⟩
                          simp only at e5
                          rw [hs] at e5
                          exact (Option.some.inj e5).symm
                        refine xv_after (va_runIN ⟨hex, hb, hml, hown, hts⟩ hM1 ⟨cw, e6, hts _ e4⟩ hpre' rfl hlen' hl.1.1 hstk hroom (d1.at rfl) ⟨by omega, by omega⟩) hS ?_
                        intro v st₀ t locs1 hlo hq
                        exact back v st₀ t locs1 _ hlo hq
                    · cases hb1
              case invokevirtual i =>
                simp only [xv_inv] at ha
                split at ha
                · obtain ⟨a, t, rfl, hb1⟩ := xv_r1_inv ha
                  cases hcp : xv_clone (pc + 3) L h a t <;> rw [hcp] at hb1 <;> cases hb1
                · rename_i hr
                  simp only [xv_okJ, if_neg hr] at d3
                  by_cases hne : ri = 1003
                  · rw [if_pos hne] at ha
                    obtain ⟨a, t, rfl, hb1⟩ := xv_r1_inv ha
                    split at hb1 <;> cases hb1
                  rw [if_neg hne] at ha d3
                  obtain ⟨eL, M', q0, e1, e2, e2', c1, c2, c3, e3, e4, e6, e5⟩ := d3
                  split at ha
                  · cases ha
                  · rename_i hlen
                    obtain ⟨b, t, hst, hb1⟩ := xv_r1_inv ha
                    split at hb1
                    · rename_i hrec
                      simp only [xv_call] at hb1
                      split at hb1
                      · rename_i hcd
                        cases hb1
                        obtain ⟨t1, t2, t3, t4⟩ := (hTb.2.2 ri M' e1).1 eL
                        have hM1 := xv_met ih hTb hwo e1 eL hc2 hcd.1 (Nat.le_trans m1 hr3)
                        have cw := xv_callB (R := R) (M := M) (mc := h1.1 - h.1) (ms := h1.2.1 - h.2.1) hTb.2.1 hts e2 e2' hRf hRl t3 t4 t2 e3 e5
                        obtain ⟨cell, f1, f2, f3⟩ := hR.obj hrec.1 hrec.2 c2
                        have hal : xv_al w b = w.1 + b := xv_al_lt (by omega)
                        have hcls := (hK.1.1.1 _ q0 c1).2
                        refine xv_after (va_runV (C := M'.1.cls) (b := xv_al w b) (As := ((st.take qi).reverse).map (xv_cv (xv_al w))) (rest := t.map (xv_cv (xv_al w))) ⟨hex, hb, hml, hown, hts⟩ hM1 ⟨cw, hts _ e4, hts _ e6⟩ ⟨xv_Pc_blind, ⟨cell, by rw [hal]; exact f1, by rw [f2]; rfl, by rw [f3, ← c3]; exact hcls.1⟩, fun U hU hW => hpre U hU hW _ rfl⟩ rfl (by simp; omega) hl.1.1 (by rw [show (F0 m pc ls (st.map (xv_cv (xv_al w)))).stack = _ from xv_stk (xv_al w) st qi, hst]; rfl) (by rw [xv_cats]; have := xv_room_spec hcd.2; show 2 * 0 + _ ≤ 8; omega) (d1.at rfl) ⟨by omega, by omega⟩) hS ?_
                        intro v st₀ t locs1 hlo hq
                        exact back v st₀ t locs1 _ hlo hq
                      · cases hb1
                    · cases hb1
              all_goals cases ha
end XY
