/-! The instructions that reach cells. -/
section XE
variable {p : Program} {l : Launch} {e : Env} {R : Room} {s : State} {m : MethodId} {args : Array Value} {below : List Frame} {meth : Method} {c : Code} {Q : State → Prop} {cc : ByteArray} {w : xv_W} {cl : List vw_C} {rk : Nat → Bool} {aty : List FieldType} {WS : List Jvm.Cond} {stt : List (String × String × String)} {sx : xv_X} {sc : Nat × (Nat → Int32)} {nL n0 z0 nE zE : Nat} {lg : List Nat} {pc : Nat} {L : xv_L} {st : List Value} {n z : Nat} {tg ln : Nat → Nat} {fr er : Nat → Nat → Option Nat} {fi ei : Nat → Nat → Int32} {el : Nat → Nat → Int64} {tyf : Nat → Nat → FieldType} {cp : Nat → Nat} {y : MethodName} {r q : Nat} {x : xv_N}
theorem xe_ldc {i : Nat} (hC : xv_Cx p R s m args meth c cc w cl aty WS stt sx sc y.cls nL n0 z0 nE zE) (hd : xv_dec cc pc (.ldc i)) (hT : xv_okC cl tyf rk aty WS) (hok : xv_okI sx cl tyf rk aty cp WS stt y pc (.ldc i, r, q)) (hE : x.2.2.2.1 ≤ nE) (hZ : x.2.2.2.2.1 ≤ zE) (ha : xv_act sc cp lg (.ldc i, r, q) pc L st (n, z, tg, ln, fr, er, fi, ei, el) = some x) (hG : xv_G p l e R s m args below meth c Q w cl rk lg nL n0 z0 x) : xv_G p l e R s m args below meth c Q w cl rk lg nL n0 z0 (pc, L, st, (n, z, tg, ln, fr, er, fi, ei, el)) := by
  rcases hok with ⟨h0, h1⟩ | ⟨h0, h1⟩
  · simp only at h0
    simp only [xv_act, h0, if_true] at ha
    cases xv_nx_inv ha
    exact fun ls H locs hl hR hS g1 g2 => lv_ldc hC.1.1 hC.1.2.1 hC.1.2.2.2.1 (hC.1.2.2.2.2 _ h1) (hd.at rfl) (hG ls H locs hl hR hS g1 g2)
  · simp only at h0
    simp only [xv_act, h0, if_true] at ha
    rw [if_neg (by decide)] at ha
    cases xv_nx_inv ha
    exact xs_ldcM hC (hd.at rfl) h1 hG
theorem xe_ldc2 {i : Nat} (hC : xv_Cx p R s m args meth c cc w cl aty WS stt sx sc y.cls nL n0 z0 nE zE) (hd : xv_dec cc pc (.ldc2_w i)) (hT : xv_okC cl tyf rk aty WS) (hok : xv_okI sx cl tyf rk aty cp WS stt y pc (.ldc2_w i, r, q)) (hE : x.2.2.2.1 ≤ nE) (hZ : x.2.2.2.2.1 ≤ zE) (ha : xv_act sc cp lg (.ldc2_w i, r, q) pc L st (n, z, tg, ln, fr, er, fi, ei, el) = some x) (hG : xv_G p l e R s m args below meth c Q w cl rk lg nL n0 z0 x) : xv_G p l e R s m args below meth c Q w cl rk lg nL n0 z0 (pc, L, st, (n, z, tg, ln, fr, er, fi, ei, el)) := by
  simp only [xv_act] at ha
  cases xv_nx_inv ha
  exact fun ls H locs hl hR hS g1 g2 => lv_ldc2 hC.1.1 hC.1.2.1 hC.1.2.2.2.1 (hC.1.2.2.2.2 _ hok) (hd.at rfl) (hG ls H locs hl hR hS g1 g2)
theorem xe_getf {i : Nat} (hC : xv_Cx p R s m args meth c cc w cl aty WS stt sx sc y.cls nL n0 z0 nE zE) (hd : xv_dec cc pc (.getfield i)) (hT : xv_okC cl tyf rk aty WS) (hok : xv_okI sx cl tyf rk aty cp WS stt y pc (.getfield i, r, q)) (hE : x.2.2.2.1 ≤ nE) (hZ : x.2.2.2.2.1 ≤ zE) (ha : xv_act sc cp lg (.getfield i, r, q) pc L st (n, z, tg, ln, fr, er, fi, ei, el) = some x) (hG : xv_G p l e R s m args below meth c Q w cl rk lg nL n0 z0 x) : xv_G p l e R s m args below meth c Q w cl rk lg nL n0 z0 (pc, L, st, (n, z, tg, ln, fr, er, fi, ei, el)) := by
  simp only [xv_act] at ha
  obtain ⟨ci, k, q0, ref, h1, h2, h3, h4, h5, h6, h7, h8⟩ := hok
  simp only at h1 h8
  subst h1
  obtain ⟨a, t, rfl, ha1⟩ := xv_r1_inv ha
  have e : (100 * ci + k) / 100 = ci := by omega
  simp only [e] at ha1
  split at ha1
  · rename_i hc
    cases xv_nx_inv ha1
    refine xs_getf hC (hd.at rfl) h4 (hT.1 ci q0 h4).1 h3 h5 h6 h7 hE hc.1 hc.2 ?_
    rw [h8]
    by_cases hq : q = 1
    · rw [if_pos hq] at hG
      rw [if_pos (by simpa using hq)]; exact hG
    · rw [if_neg hq] at hG
      rw [if_neg (by simpa using hq)]; exact hG
  · cases ha1
theorem xe_putf {i : Nat} (hC : xv_Cx p R s m args meth c cc w cl aty WS stt sx sc y.cls nL n0 z0 nE zE) (hd : xv_dec cc pc (.putfield i)) (hT : xv_okC cl tyf rk aty WS) (hok : xv_okI sx cl tyf rk aty cp WS stt y pc (.putfield i, r, q)) (hmn : y.name = "<init>" → meth.name = "<init>") (hE : x.2.2.2.1 ≤ nE) (hZ : x.2.2.2.2.1 ≤ zE) (ha : xv_act sc cp lg (.putfield i, r, q) pc L st (n, z, tg, ln, fr, er, fi, ei, el) = some x) (hG : xv_G p l e R s m args below meth c Q w cl rk lg nL n0 z0 x) : xv_G p l e R s m args below meth c Q w cl rk lg nL n0 z0 (pc, L, st, (n, z, tg, ln, fr, er, fi, ei, el)) := by
  obtain ⟨ci, k, q0, ref, h1, h2, h3, h4, h5, h6, h7, h8, h9, h10, h11, h12⟩ := hok
  simp only at h1 h8 h10 h11 h12
  subst h1
  obtain ⟨hw, hty, hnm, -⟩ := hT.1 ci q0 h4
  have e : (100 * ci + k) / 100 = ci := by omega
  have hfin : (q0.2.1 k).2.2.2 = false ∨ ((q0.2.1 k).2.2.2 = true ∧ meth.name = "<init>" ∧ (q0.2.1 k).1 = y.cls) := by
    rcases h9 with h9 | ⟨a1, a2, a3⟩
    · exact Or.inl h9
    · exact Or.inr ⟨a1, hmn a2, a3⟩
  simp only [xv_act] at ha
  by_cases hq : q = 1
  · rw [if_pos hq] at ha
    obtain ⟨o, t, rfl, ha1⟩ := xv_q1_inv ha
    obtain ⟨a, t, rfl, ha2⟩ := xv_r1_inv ha1
    simp only [e] at ha2
    split at ha2
    · rename_i hc
      cases xv_nx_inv ha2
      have hrk : rk (100 * ci + k) = true := by rw [h8]; simpa using hq
      have hre : narrow (tyf ci k) (xv_cv (xv_al w) (va_rf o)) = xv_cv (xv_al w) (va_rf o) ∧ fits (tyf ci k) (xv_cv (xv_al w) (va_rf o)) = true := by
        rcases h10 hq with ⟨C, hC⟩ | ⟨t, hC⟩ <;> rw [hC] <;> cases o <;> exact ⟨rfl, rfl⟩
      refine xs_putf (ty0 := tyf ci) (h' := (n, z, tg, ln, xv_up fr (100 * ci + k) a o, er, fi, ei, el)) hC (hd.at rfl) h4 hw h3 h5 h6 h7 hty hnm hfin hre.1 hre.2 hE hc.1 hc.2 rfl rfl rfl rfl ?_ (fun g b hne => ?_) (fun _ _ _ => rfl) hG
      · simp only [xv_fv, hrk, if_true, xv_up_eq]
      · simp only [xv_fv, xv_up_ne hne]
    · cases ha2
  · rw [if_neg hq] at ha
    obtain ⟨v, t, rfl, ha3⟩ := xv_i1_inv ha
    obtain ⟨a, t, rfl, ha4⟩ := xv_r1_inv ha3
    simp only [e] at ha4
    split at ha4
    · rename_i hc
      cases xv_nx_inv ha4
      have hrk : ¬ rk (100 * ci + k) = true := by rw [h8]; simpa using hq
      have hre : narrow (tyf ci k) (.int v) = .int v ∧ fits (tyf ci k) (.int v) = true := by
        rcases hc.2 with d | ⟨d, d1 | d1⟩
        · rw [h11 d]; exact ⟨rfl, rfl⟩
        · rw [h12 d, d1]; exact ⟨by decide, by decide⟩
        · rw [h12 d, d1]; exact ⟨by decide, by decide⟩
      refine xs_putf (ty0 := tyf ci) (v0 := .int v) (h' := (n, z, tg, ln, fr, er, xv_up fi (100 * ci + k) a v, ei, el)) hC (hd.at rfl) h4 hw h3 h5 h6 h7 hty hnm hfin hre.1 hre.2 hE hc.1.1 hc.1.2 rfl rfl rfl rfl ?_ (fun g b hne => ?_) (fun _ _ _ => rfl) hG
      · simp only [xv_fv, if_neg hrk, xv_up_eq]; rfl
      · simp only [xv_fv, xv_up_ne hne]
    · cases ha4
theorem xe_gets {i : Nat} (hC : xv_Cx p R s m args meth c cc w cl aty WS stt sx sc y.cls nL n0 z0 nE zE) (hd : xv_dec cc pc (.getstatic i)) (hT : xv_okC cl tyf rk aty WS) (hok : xv_okI sx cl tyf rk aty cp WS stt y pc (.getstatic i, r, q)) (hE : x.2.2.2.1 ≤ nE) (hZ : x.2.2.2.2.1 ≤ zE) (ha : xv_act sc cp lg (.getstatic i, r, q) pc L st (n, z, tg, ln, fr, er, fi, ei, el) = some x) (hG : xv_G p l e R s m args below meth c Q w cl rk lg nL n0 z0 x) : xv_G p l e R s m args below meth c Q w cl rk lg nL n0 z0 (pc, L, st, (n, z, tg, ln, fr, er, fi, ei, el)) := by
  simp only [xv_act] at ha
  obtain ⟨q0, ref, k, h0, h1, h2, h3⟩ := hok
  simp only at h0
  subst h0
  cases xv_nx_inv ha
  exact xs_gets hC (hd.at rfl) h1 h2 h3 hG
theorem xe_iald (hC : xv_Cx p R s m args meth c cc w cl aty WS stt sx sc y.cls nL n0 z0 nE zE) (hd : xv_dec cc pc (.iaload)) (hT : xv_okC cl tyf rk aty WS) (hok : xv_okI sx cl tyf rk aty cp WS stt y pc (.iaload, r, q)) (hE : x.2.2.2.1 ≤ nE) (hZ : x.2.2.2.2.1 ≤ zE) (ha : xv_act sc cp lg (.iaload, r, q) pc L st (n, z, tg, ln, fr, er, fi, ei, el) = some x) (hG : xv_G p l e R s m args below meth c Q w cl rk lg nL n0 z0 x) : xv_G p l e R s m args below meth c Q w cl rk lg nL n0 z0 (pc, L, st, (n, z, tg, ln, fr, er, fi, ei, el)) := by
  simp only [xv_act] at ha
  obtain ⟨i, t, rfl, ha1⟩ := xv_i1_inv ha
  obtain ⟨a, t, rfl, ha2⟩ := xv_r1_inv ha1
  split at ha2
  · rename_i ha0
    subst ha0
    split at ha2
    · rename_i hc
      cases xv_nx_inv ha2
      exact xs_sald hC (hd.at rfl) hc.1 hc.2 hG
    · cases ha2
  · obtain ⟨h1, h2, h3, ha3⟩ := xv_in_inv ha2
    split at ha3
    · rename_i hc
      cases xv_nx_inv ha3
      exact xs_iald hC (hd.at rfl) hT.2.1 hE h1 h2 h3 hc hG
    · cases ha3
theorem xe_bald (hC : xv_Cx p R s m args meth c cc w cl aty WS stt sx sc y.cls nL n0 z0 nE zE) (hd : xv_dec cc pc (.baload)) (hT : xv_okC cl tyf rk aty WS) (hok : xv_okI sx cl tyf rk aty cp WS stt y pc (.baload, r, q)) (hE : x.2.2.2.1 ≤ nE) (hZ : x.2.2.2.2.1 ≤ zE) (ha : xv_act sc cp lg (.baload, r, q) pc L st (n, z, tg, ln, fr, er, fi, ei, el) = some x) (hG : xv_G p l e R s m args below meth c Q w cl rk lg nL n0 z0 x) : xv_G p l e R s m args below meth c Q w cl rk lg nL n0 z0 (pc, L, st, (n, z, tg, ln, fr, er, fi, ei, el)) := by
  simp only [xv_act] at ha
  obtain ⟨i, t, rfl, ha1⟩ := xv_i1_inv ha
  obtain ⟨a, t, rfl, ha2⟩ := xv_r1_inv ha1
  obtain ⟨h1, h2, h3, ha3⟩ := xv_in_inv ha2
  split at ha3
  · rename_i hc
    cases xv_nx_inv ha3
    rcases hc with hc | hc
    · exact xs_bald hC (hd.at rfl) hT.2.2.1 hE h1 h2 h3 hc hG
    · exact xs_zald hC (hd.at rfl) hT.2.2.2.1 hE h1 h2 h3 hc hG
  · cases ha3
theorem xe_lald (hC : xv_Cx p R s m args meth c cc w cl aty WS stt sx sc y.cls nL n0 z0 nE zE) (hd : xv_dec cc pc (.laload)) (hT : xv_okC cl tyf rk aty WS) (hok : xv_okI sx cl tyf rk aty cp WS stt y pc (.laload, r, q)) (hE : x.2.2.2.1 ≤ nE) (hZ : x.2.2.2.2.1 ≤ zE) (ha : xv_act sc cp lg (.laload, r, q) pc L st (n, z, tg, ln, fr, er, fi, ei, el) = some x) (hG : xv_G p l e R s m args below meth c Q w cl rk lg nL n0 z0 x) : xv_G p l e R s m args below meth c Q w cl rk lg nL n0 z0 (pc, L, st, (n, z, tg, ln, fr, er, fi, ei, el)) := by
  simp only [xv_act] at ha
  obtain ⟨i, t, rfl, ha1⟩ := xv_i1_inv ha
  obtain ⟨a, t, rfl, ha2⟩ := xv_r1_inv ha1
  obtain ⟨h1, h2, h3, ha3⟩ := xv_in_inv ha2
  split at ha3
  · rename_i hc
    cases xv_nx_inv ha3
    exact xs_lald hC (hd.at rfl) hT.2.2.2.2 hE h1 h2 h3 hc hG
  · cases ha3
theorem xe_aald (hC : xv_Cx p R s m args meth c cc w cl aty WS stt sx sc y.cls nL n0 z0 nE zE) (hd : xv_dec cc pc (.aaload)) (hT : xv_okC cl tyf rk aty WS) (hok : xv_okI sx cl tyf rk aty cp WS stt y pc (.aaload, r, q)) (hE : x.2.2.2.1 ≤ nE) (hZ : x.2.2.2.2.1 ≤ zE) (ha : xv_act sc cp lg (.aaload, r, q) pc L st (n, z, tg, ln, fr, er, fi, ei, el) = some x) (hG : xv_G p l e R s m args below meth c Q w cl rk lg nL n0 z0 x) : xv_G p l e R s m args below meth c Q w cl rk lg nL n0 z0 (pc, L, st, (n, z, tg, ln, fr, er, fi, ei, el)) := by
  simp only [xv_act] at ha
  obtain ⟨j, C, e1, e2, e3⟩ := hok
  simp only at e1
  subst e1
  obtain ⟨i, t, rfl, ha1⟩ := xv_i1_inv ha
  obtain ⟨a, t, rfl, ha2⟩ := xv_r1_inv ha1
  obtain ⟨h1, h2, h3, ha3⟩ := xv_in_inv ha2
  split at ha3
  · rename_i hc
    cases xv_nx_inv ha3
    exact xs_aald hC (hd.at rfl) e3 e2 hE h1 h2 h3 hc hG
  · cases ha3
theorem xe_iast (hC : xv_Cx p R s m args meth c cc w cl aty WS stt sx sc y.cls nL n0 z0 nE zE) (hd : xv_dec cc pc (.iastore)) (hT : xv_okC cl tyf rk aty WS) (hok : xv_okI sx cl tyf rk aty cp WS stt y pc (.iastore, r, q)) (hE : x.2.2.2.1 ≤ nE) (hZ : x.2.2.2.2.1 ≤ zE) (ha : xv_act sc cp lg (.iastore, r, q) pc L st (n, z, tg, ln, fr, er, fi, ei, el) = some x) (hG : xv_G p l e R s m args below meth c Q w cl rk lg nL n0 z0 x) : xv_G p l e R s m args below meth c Q w cl rk lg nL n0 z0 (pc, L, st, (n, z, tg, ln, fr, er, fi, ei, el)) := by
  simp only [xv_act] at ha
  obtain ⟨v, t, rfl, ha1⟩ := xv_i1_inv ha
  obtain ⟨i, t, rfl, ha2⟩ := xv_i1_inv ha1
  obtain ⟨a, t, rfl, ha3⟩ := xv_r1_inv ha2
  obtain ⟨h1, h2, h3, ha4⟩ := xv_in_inv ha3
  split at ha4
  · rename_i hc
    cases xv_nx_inv ha4
    exact xs_iast hC (hd.at rfl) hT.2.1 hE h1 h2 h3 hc hG
  · cases ha4
theorem xe_last (hC : xv_Cx p R s m args meth c cc w cl aty WS stt sx sc y.cls nL n0 z0 nE zE) (hd : xv_dec cc pc (.lastore)) (hT : xv_okC cl tyf rk aty WS) (hok : xv_okI sx cl tyf rk aty cp WS stt y pc (.lastore, r, q)) (hE : x.2.2.2.1 ≤ nE) (hZ : x.2.2.2.2.1 ≤ zE) (ha : xv_act sc cp lg (.lastore, r, q) pc L st (n, z, tg, ln, fr, er, fi, ei, el) = some x) (hG : xv_G p l e R s m args below meth c Q w cl rk lg nL n0 z0 x) : xv_G p l e R s m args below meth c Q w cl rk lg nL n0 z0 (pc, L, st, (n, z, tg, ln, fr, er, fi, ei, el)) := by
  simp only [xv_act] at ha
  obtain ⟨v, t, rfl, ha1⟩ := xv_l1_inv ha
  obtain ⟨i, t, rfl, ha2⟩ := xv_i1_inv ha1
  obtain ⟨a, t, rfl, ha3⟩ := xv_r1_inv ha2
  obtain ⟨h1, h2, h3, ha4⟩ := xv_in_inv ha3
  split at ha4
  · rename_i hc
    cases xv_nx_inv ha4
    exact xs_last hC (hd.at rfl) hT.2.2.2.2 hE h1 h2 h3 hc hG
  · cases ha4
theorem xe_bast (hC : xv_Cx p R s m args meth c cc w cl aty WS stt sx sc y.cls nL n0 z0 nE zE) (hd : xv_dec cc pc (.bastore)) (hT : xv_okC cl tyf rk aty WS) (hok : xv_okI sx cl tyf rk aty cp WS stt y pc (.bastore, r, q)) (hE : x.2.2.2.1 ≤ nE) (hZ : x.2.2.2.2.1 ≤ zE) (ha : xv_act sc cp lg (.bastore, r, q) pc L st (n, z, tg, ln, fr, er, fi, ei, el) = some x) (hG : xv_G p l e R s m args below meth c Q w cl rk lg nL n0 z0 x) : xv_G p l e R s m args below meth c Q w cl rk lg nL n0 z0 (pc, L, st, (n, z, tg, ln, fr, er, fi, ei, el)) := by
  simp only [xv_act] at ha
  obtain ⟨v, t, rfl, ha1⟩ := xv_i1_inv ha
  obtain ⟨i, t, rfl, ha2⟩ := xv_i1_inv ha1
  obtain ⟨a, t, rfl, ha3⟩ := xv_r1_inv ha2
  obtain ⟨h1, h2, h3, ha4⟩ := xv_in_inv ha3
  split at ha4
  · rename_i hc
    cases xv_nx_inv ha4
    exact xs_bast hC (hd.at rfl) hT.2.2.1 hE h1 h2 h3 hc hG
  · split at ha4
    · rename_i hc
      cases xv_nx_inv ha4
      exact xs_zast hC (hd.at rfl) hT.2.2.2.1 hE h1 h2 h3 hc.1 hc.2 hG
    · cases ha4
theorem xe_aast (hC : xv_Cx p R s m args meth c cc w cl aty WS stt sx sc y.cls nL n0 z0 nE zE) (hd : xv_dec cc pc (.aastore)) (hT : xv_okC cl tyf rk aty WS) (hok : xv_okI sx cl tyf rk aty cp WS stt y pc (.aastore, r, q)) (hE : x.2.2.2.1 ≤ nE) (hZ : x.2.2.2.2.1 ≤ zE) (ha : xv_act sc cp lg (.aastore, r, q) pc L st (n, z, tg, ln, fr, er, fi, ei, el) = some x) (hG : xv_G p l e R s m args below meth c Q w cl rk lg nL n0 z0 x) : xv_G p l e R s m args below meth c Q w cl rk lg nL n0 z0 (pc, L, st, (n, z, tg, ln, fr, er, fi, ei, el)) := by
  simp only [xv_act] at ha
  obtain ⟨j, C, q0, e1, e2, e3, e4, e5, e6⟩ := hok
  simp only at e1 e4 e5
  subst e1
  obtain ⟨o, t, rfl, ha1⟩ := xv_q1_inv ha
  obtain ⟨i, t, rfl, ha2⟩ := xv_i1_inv ha1
  obtain ⟨a, t, rfl, ha3⟩ := xv_r1_inv ha2
  obtain ⟨h1, h2, h3, ha4⟩ := xv_in_inv ha3
  split at ha4
  · rename_i hc
    cases xv_nx_inv ha4
    cases o with
    | none => exact xs_aastN hC (hd.at rfl) e3 e2 hE h1 h2 h3 hc.1 hG
    | some b =>
      have hb := hc.2
      simp only [xv_ok, decide_eq_true_eq] at hb
      have hc1 : tg a = 100 + j := hc.1
      rw [hc1] at hb
      exact xs_aast hC (hd.at rfl) e3 e2 e4 e5 e6 hE h1 h2 h3 hc.1 hb.1 hb.2 hG
  · cases ha4
theorem xe_alen (hC : xv_Cx p R s m args meth c cc w cl aty WS stt sx sc y.cls nL n0 z0 nE zE) (hd : xv_dec cc pc (.arraylength)) (hT : xv_okC cl tyf rk aty WS) (hok : xv_okI sx cl tyf rk aty cp WS stt y pc (.arraylength, r, q)) (hE : x.2.2.2.1 ≤ nE) (hZ : x.2.2.2.2.1 ≤ zE) (ha : xv_act sc cp lg (.arraylength, r, q) pc L st (n, z, tg, ln, fr, er, fi, ei, el) = some x) (hG : xv_G p l e R s m args below meth c Q w cl rk lg nL n0 z0 x) : xv_G p l e R s m args below meth c Q w cl rk lg nL n0 z0 (pc, L, st, (n, z, tg, ln, fr, er, fi, ei, el)) := by
  simp only [xv_act] at ha
  obtain ⟨j, ty, e1, e2⟩ := hok
  simp only at e1
  subst e1
  obtain ⟨a, t, rfl, ha1⟩ := xv_r1_inv ha
  split at ha1
  · rename_i ha0
    subst ha0
    cases xv_nx_inv ha1
    exact xs_slen hC (hd.at rfl) hG
  · split at ha1
    · rename_i hc
      obtain ⟨rfl, -⟩ := hc
      cases xv_nx_inv ha1
      exact xs_elen hC (hd.at rfl) hG
    · split at ha1
      · rename_i hc
        cases xv_nx_inv ha1
        exact xs_alen hC (hd.at rfl) e2 hE hc.1 hc.2 hG
      · cases ha1
theorem xe_new {i : Nat} (hC : xv_Cx p R s m args meth c cc w cl aty WS stt sx sc y.cls nL n0 z0 nE zE) (hd : xv_dec cc pc (.new i)) (hT : xv_okC cl tyf rk aty WS) (hok : xv_okI sx cl tyf rk aty cp WS stt y pc (.new i, r, q)) (hE : x.2.2.2.1 ≤ nE) (hZ : x.2.2.2.2.1 ≤ zE) (ha : xv_act sc cp lg (.new i, r, q) pc L st (n, z, tg, ln, fr, er, fi, ei, el) = some x) (hG : xv_G p l e R s m args below meth c Q w cl rk lg nL n0 z0 x) : xv_G p l e R s m args below meth c Q w cl rk lg nL n0 z0 (pc, L, st, (n, z, tg, ln, fr, er, fi, ei, el)) := by
  simp only [xv_act] at ha
  obtain ⟨q0, h1, h2, h3, h4, h5, h6⟩ := hok
  simp only at h1 h2 h3
  subst h3
  obtain ⟨hw, hty, hnm, hdf⟩ := hT.1 r q0 h1
  cases xv_nx_inv ha
  exact xs_new (ty0 := tyf r) hC (hd.at rfl) h1 h2 hw h4 h5 h6 hty hdf hE hZ hG
theorem xe_newa {t : ClassFile.ArrayType} (hC : xv_Cx p R s m args meth c cc w cl aty WS stt sx sc y.cls nL n0 z0 nE zE) (hd : xv_dec cc pc (.newarray t)) (hT : xv_okC cl tyf rk aty WS) (hok : xv_okI sx cl tyf rk aty cp WS stt y pc (.newarray t, r, q)) (hE : x.2.2.2.1 ≤ nE) (hZ : x.2.2.2.2.1 ≤ zE) (ha : xv_act sc cp lg (.newarray t, r, q) pc L st (n, z, tg, ln, fr, er, fi, ei, el) = some x) (hG : xv_G p l e R s m args below meth c Q w cl rk lg nL n0 z0 x) : xv_G p l e R s m args below meth c Q w cl rk lg nL n0 z0 (pc, L, st, (n, z, tg, ln, fr, er, fi, ei, el)) := by
  simp only [xv_act] at ha
  obtain ⟨j, e1, e2, e3, e4⟩ := hok
  simp only at e1
  subst e1
  obtain ⟨k, t0, rfl, ha1⟩ := xv_i1_inv ha
  obtain ⟨h1, h2, ha2⟩ := xv_len_inv ha1
  cases xv_nx_inv ha2
  exact xs_newa hC (hd.at rfl) e2 e3 e4 h1 h2 hE hZ hG
theorem xe_anew {i : Nat} (hC : xv_Cx p R s m args meth c cc w cl aty WS stt sx sc y.cls nL n0 z0 nE zE) (hd : xv_dec cc pc (.anewarray i)) (hT : xv_okC cl tyf rk aty WS) (hok : xv_okI sx cl tyf rk aty cp WS stt y pc (.anewarray i, r, q)) (hE : x.2.2.2.1 ≤ nE) (hZ : x.2.2.2.2.1 ≤ zE) (ha : xv_act sc cp lg (.anewarray i, r, q) pc L st (n, z, tg, ln, fr, er, fi, ei, el) = some x) (hG : xv_G p l e R s m args below meth c Q w cl rk lg nL n0 z0 x) : xv_G p l e R s m args below meth c Q w cl rk lg nL n0 z0 (pc, L, st, (n, z, tg, ln, fr, er, fi, ei, el)) := by
  simp only [xv_act] at ha
  obtain ⟨j, C, e1, e2, e3, e4, e5⟩ := hok
  simp only at e1
  subst e1
  obtain ⟨k, t0, rfl, ha1⟩ := xv_i1_inv ha
  obtain ⟨h1, h2, ha2⟩ := xv_len_inv ha1
  cases xv_nx_inv ha2
  exact xs_anew hC (hd.at rfl) e3 e2 e4 e5 h1 h2 hE hZ hG
theorem xe_cast {i : Nat} (hC : xv_Cx p R s m args meth c cc w cl aty WS stt sx sc y.cls nL n0 z0 nE zE) (hd : xv_dec cc pc (.checkcast i)) (hT : xv_okC cl tyf rk aty WS) (hok : xv_okI sx cl tyf rk aty cp WS stt y pc (.checkcast i, r, q)) (hE : x.2.2.2.1 ≤ nE) (hZ : x.2.2.2.2.1 ≤ zE) (ha : xv_act sc cp lg (.checkcast i, r, q) pc L st (n, z, tg, ln, fr, er, fi, ei, el) = some x) (hG : xv_G p l e R s m args below meth c Q w cl rk lg nL n0 z0 x) : xv_G p l e R s m args below meth c Q w cl rk lg nL n0 z0 (pc, L, st, (n, z, tg, ln, fr, er, fi, ei, el)) := by
  simp only [xv_act] at ha
  split at ha
  · cases xv_nx_inv ha
    exact xs_castN hC (hd.at rfl) hG
  · split at ha
    · rename_i hc
      cases xv_nx_inv ha
      rcases hok with ⟨q0, e1, e2, e3⟩ | ⟨j, ty, e1, e2, e3⟩
      · exact xs_cast hC (hd.at rfl) e1 e2 e3 hE hc.1 hc.2 hG
      · simp only at e1
        subst e1
        exact xs_castA hC (hd.at rfl) e2 e3 (xv_nm (hC.2.1.2 j ty e2).2) hE hc.1 hc.2 hG
    · cases ha
  · cases ha
end XE
