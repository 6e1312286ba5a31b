/-! Calls, returns; the machine does what the abstract one does. -/
def xv_rm (k : Nat × Nat) (mc ms : Nat) : Room := { frames := k.1, cells := mc, slots := ms, locals := k.2 }
/-- returns and calls are resolved as the words say -/
def xv_okJ (yL : Nat) (sx : xv_X) (mt : List xv_M) (cl : List vw_C) (aty : List FieldType) (cp cs : Nat → Nat) (WS : List Jvm.Cond) (M : xv_M) (ic : xv_I) : Prop := match ic.1 with
  | .ireturn => (ic.2.2 = 0 → M.2.2.2.1 = some .int) ∧ (ic.2.2 = 2 → M.2.2.2.1 = some .boolean)
  | .lreturn => M.2.2.2.1 = some .long
  | .areturn => ∃ rt, M.2.2.2.1 = some rt ∧ ((∃ n, rt = .object n) ∨ ∃ t, rt = .array t)
  | .return_ => M.2.2.2.1 = none
  | .invokestatic i => if ic.2.1 = 1000 then 1 ≤ M.2.2.2.2.1 ∧ 26 ≤ M.2.2.2.2.2 ∧ Jvm.Cond.methodLink M.1.cls i arraycopyName ∈ WS ∧ Jvm.Cond.native arraycopyName ∈ WS ∧ Jvm.Cond.static arraycopyName ∈ WS ∧ Jvm.Cond.initialized "java/lang/System" ∈ WS ∧ (104 ≤ ic.2.2 → ∃ (j : Nat) (C : String) (q : vw_C), ic.2.2 = 100 + j ∧ aty[j]? = some (.object C) ∧ cl[cp ic.2.2]? = some q ∧ cp ic.2.2 < 100 ∧ (C = q.1 ∨ (q.1, C) ∈ sx.1))
      else if ic.2.1 = 1004 then 1 ≤ M.2.2.2.2.1 ∧ 26 ≤ M.2.2.2.2.2 ∧ Jvm.Cond.methodLink M.1.cls i Lib.Math.min.name ∈ WS ∧ Jvm.Cond.static Lib.Math.min.name ∈ WS ∧ Jvm.Cond.initialized "java/lang/Math" ∈ WS ∧ Jvm.Cond.code Lib.Math.min.name Lib.Math.min.code 2 (some .int) ∈ WS
      else if ic.2.1 = 1005 then 1 ≤ M.2.2.2.2.1 ∧ 26 ≤ M.2.2.2.2.2 ∧ Jvm.Cond.methodLink M.1.cls i Lib.Math.max.name ∈ WS ∧ Jvm.Cond.static Lib.Math.max.name ∈ WS ∧ Jvm.Cond.initialized "java/lang/Math" ∈ WS ∧ Jvm.Cond.code Lib.Math.max.name Lib.Math.max.code 2 (some .int) ∈ WS
      else ic.2.1 ≠ yL ∧ ∃ M' : xv_M, mt[ic.2.1]? = some M' ∧ M'.2.2.2.2.1 < M.2.2.2.2.1 ∧ 19 + M'.2.2.1 + M'.2.2.2.2.2 ≤ M.2.2.2.2.2 ∧ Jvm.Cond.methodLink M.1.cls i M'.1 ∈ WS ∧ Jvm.Cond.static M'.1 ∈ WS ∧ (parseMethodDescriptor M'.1.desc).map (fun d => d.parameters.length) = some ic.2.2
  | .invokespecial i => if ic.2.1 = 1001 then 1 ≤ M.2.2.2.2.1 ∧ 26 ≤ M.2.2.2.2.2 ∧ Jvm.Cond.methodLink M.1.cls i Lib.objectInit ∈ WS ∧ Jvm.Cond.instanceMethod Lib.objectInit ∈ WS ∧ Jvm.Cond.code Lib.objectInit ⟨#[0xb1]⟩ 1 none ∈ WS
      else ic.2.1 ≠ yL ∧ ∃ M' : xv_M, mt[ic.2.1]? = some M' ∧ M'.2.2.2.2.1 < M.2.2.2.2.1 ∧ 19 + M'.2.2.1 + M'.2.2.2.2.2 ≤ M.2.2.2.2.2 ∧ M'.2.2.2.1 = none ∧ M'.1.name = "<init>" ∧ (Jvm.Cond.methodLink M.1.cls i M'.1 ∈ WS ∨ ∃ host, (M.1.cls, i, M'.1, host) ∈ sx.2.2) ∧ Jvm.Cond.instanceMethod M'.1 ∈ WS ∧ (parseMethodDescriptor M'.1.desc).map (fun d => d.parameters.length) = some ic.2.2
  | .invokevirtual i => if ic.2.1 = 1002 then 1 ≤ M.2.2.2.2.1 ∧ 26 ≤ M.2.2.2.2.2 ∧ Jvm.Cond.methodLink M.1.cls i ⟨"[I", "clone", "()Ljava/lang/Object;"⟩ ∈ WS ∧ Jvm.Cond.sameMethod "[I" "java/lang/Object" "clone" "()Ljava/lang/Object;" ∈ WS ∧ Jvm.Cond.native ⟨"java/lang/Object", "clone", "()Ljava/lang/Object;"⟩ ∈ WS ∧ Jvm.Cond.instanceMethod ⟨"java/lang/Object", "clone", "()Ljava/lang/Object;"⟩ ∈ WS ∧ Jvm.Cond.selects "[I" ⟨"[I", "clone", "()Ljava/lang/Object;"⟩ ⟨"java/lang/Object", "clone", "()Ljava/lang/Object;"⟩ ∈ WS ∧ ("[I", "java/lang/Cloneable") ∈ sx.1
      else if ic.2.1 = 1003 then 1 ≤ M.2.2.2.2.1 ∧ 26 ≤ M.2.2.2.2.2 ∧ (∃ j, ic.2.2 = 100 + j ∧ aty[j]? = some (.object "java/lang/Object")) ∧ Jvm.Cond.methodLink M.1.cls i ⟨"java/lang/Object", "getClass", "()Ljava/lang/Class;"⟩ ∈ WS ∧ Jvm.Cond.selects "[Ljava/lang/Object;" ⟨"java/lang/Object", "getClass", "()Ljava/lang/Class;"⟩ ⟨"java/lang/Object", "getClass", "()Ljava/lang/Class;"⟩ ∈ WS ∧ Jvm.Cond.instanceMethod ⟨"java/lang/Object", "getClass", "()Ljava/lang/Class;"⟩ ∈ WS ∧ Jvm.Cond.native ⟨"java/lang/Object", "getClass", "()Ljava/lang/Class;"⟩ ∈ WS
      else ic.2.1 ≠ yL ∧ ∃ (M' : xv_M) (q : vw_C), mt[ic.2.1]? = some M' ∧ M'.2.2.2.2.1 < M.2.2.2.2.1 ∧ 19 + M'.2.2.1 + M'.2.2.2.2.2 ≤ M.2.2.2.2.2 ∧ cl[cs ic.2.1]? = some q ∧ cs ic.2.1 < 100 ∧ q.1 = M'.1.cls ∧ Jvm.Cond.methodLink M.1.cls i M'.1 ∈ WS ∧ Jvm.Cond.instanceMethod M'.1 ∈ WS ∧ Jvm.Cond.selects M'.1.cls M'.1 M'.1 ∈ WS ∧ (parseMethodDescriptor M'.1.desc).map (fun d => d.parameters.length) = some ic.2.2
  | _ => True
def xv_Tab (yL : Nat) (sx : xv_X) (mt : List xv_M) (cl : List vw_C) (tyf : Nat → Nat → FieldType) (rk : Nat → Bool) (aty : List FieldType) (cp cs : Nat → Nat) (WS : List Jvm.Cond) (stt : List (String × String × String)) (cd : Nat → Nat → Option xv_I) (mx : Nat → Nat) : Prop :=
  xv_okC cl tyf rk aty WS ∧ (∀ x ∈ WS, (x.onTables && x.keeps) = true ∨ ∃ ty, x = .arrayClass ty) ∧
  ∀ (y : Nat) (M : xv_M), mt[y]? = some M → (y ≠ yL → plainName M.1.cls = true ∧ (M.1.cls ≠ "java/lang/invoke/MethodHandle" ∧ M.1.cls ≠ "java/lang/invoke/VarHandle") ∧ Jvm.Cond.code M.1 M.2.1 M.2.2.1 M.2.2.2.1 ∈ WS ∧ Jvm.Cond.initialized M.1.cls ∈ WS) ∧ mx y = M.2.2.1 ∧
    ∀ (pc : Nat) (ic : xv_I), cd y pc = some ic → xv_dec M.2.1 pc ic.1 ∧ xv_okI sx cl tyf rk aty cp WS stt M.1 pc ic ∧ xv_okJ yL sx mt cl aty cp cs WS M ic
/-- what the tables say, at any state of the run -/
def xv_K0 (w : xv_W) (cl : List vw_C) (aty : List FieldType) (stt : List (String × String × String)) (sx : xv_X) (sc : Nat × (Nat → Int32)) (U : State) : Prop :=
  (va_K w.2.2.2.1 cl [] U ∧ ∀ (j : Nat) (ty : FieldType), aty[j]? = some ty → ArrOfT U (w.2.2.2.2.1 j) ty ∧ va_RA U (w.2.2.2.2.1 j) ty) ∧
  (va_X (w.2.2.1 0) sc.1 sc.2 U w.2.2.2.2.2 ∧ w.2.2.1 0 < w.1 ∧ 2 < w.2.1 ∧ ∃ fv : Nat → Value, va_T (.object "java/lang/Object") (w.2.2.1 2) 0 fv (fun a => w.1 ≤ a) U w.2.2.2.2.2) ∧
  xv_E w sx U ∧ ∀ (k : Nat) (q : String × String × String), stt[k]? = some q → k + 2 < w.2.1 ∧ va_Z q.1 q.2.1 q.2.2 (.ref (w.2.2.1 (k + 2))) (fun a => w.1 ≤ a) U w.2.2.2.2.2
theorem xv_K0.moved {w : xv_W} {cl : List vw_C} {aty : List FieldType} {stt : List (String × String × String)} {sx : xv_X} {sc : Nat × (Nat → Int32)} {u U : State} (hW : u.WarmedH U.vm) (h : xv_K0 w cl aty stt sx sc u) : xv_K0 w cl aty stt sx sc U := by
  obtain ⟨⟨h1, h2⟩, ⟨h3, h4, h5, fv, h6⟩, h8, h7⟩ := h
  have hvm := hW.alike
  exact ⟨⟨va_K.moved hvm h1, fun j ty hj => ⟨arrOfT_moved hvm (h2 j ty hj).1, (h2 j ty hj).2.moved hvm⟩⟩, ⟨va_X.moved hvm h3, h4, h5, fv, h6.moved hvm⟩, h8.warm hW, fun k q hk => ⟨(h7 k q hk).1, (h7 k q hk).2.moved hvm⟩⟩
def xv_Pc (w : xv_W) (cl : List vw_C) (rk : Nat → Bool) (aty : List FieldType) (stt : List (String × String × String)) (sx : xv_X) (sc : Nat × (Nat → Int32)) (h : xv_H) (av : List Value) : Array Value → State → Prop := fun v U => v = (av.map (xv_cv (xv_al w))).toArray ∧ xv_K0 w cl aty stt sx sc U ∧ xv_R w cl rk h U.heap
def xv_Qc (w : xv_W) (cl : List vw_C) (rk : Nat → Bool) (r : Option Value) (h : xv_H) : Array Value → State → Outcome → State → Prop := fun _ _ o t => o = .returned (r.map (xv_cv (xv_al w))) ∧ xv_R w cl rk h t.heap
theorem xv_Pc_blind {w : xv_W} {cl : List vw_C} {rk : Nat → Bool} {aty : List FieldType} {stt : List (String × String × String)} {sx : xv_X} {sc : Nat × (Nat → Int32)} {h : xv_H} {av : List Value} : FrameBlind (xv_Pc w cl rk aty stt sx sc h av) := fun _ _ _ _ hp => hp
/-- what is so at a method's start -/
theorem xv_Cx_of {p : Program} {R : Room} {s : State} {m : MethodId} {args : Array Value} {meth : Method} {c : Code} {cc : ByteArray} {w : xv_W} {cl : List vw_C} {rk : Nat → Bool} {aty : List FieldType} {WS : List Jvm.Cond} {stt : List (String × String × String)} {sx : xv_X} {sc : Nat × (Nat → Int32)} {own : String} {nL n0 z0 nE zE : Nat} {h : xv_H}
    (hx : p.tables.exec = Jvm.exec) (hb : c.code = cc) (hml : c.maxLocals = nL) (hown : s.vm.findClass own = some m.cls) (hts : ∀ x ∈ WS, x.before args s = true) (hK : xv_K0 w cl aty stt sx sc s) (hR : xv_R w cl rk h s.heap) (hwo : w.1 ≤ w.2.2.2.2.2.size) (h1 : nE ≤ R.cells + n0) (h2 : zE ≤ R.slots + z0) (h3 : nE ≤ xv_SB) : xv_Cx p R s m args meth c cc w cl aty WS stt sx sc own nL n0 z0 nE zE := by
  obtain ⟨g1, ⟨g2, g3, g4, fv, g5⟩, g7, g6⟩ := hK
  have hq : ∀ a : Nat, ¬ w.1 ≤ a → s.heap[a]? = w.2.2.2.2.2[a]? := fun a ha => hR.2.1 a (by omega)
  refine ⟨⟨hx, hb, hml, hown, hts⟩, g1, ⟨h1, h2, h3, by rw [hR.1]; exact Nat.le_add_right _ _⟩, ⟨va_X.kept g2 (hq _ (by omega)), g3, g4, fv, ?_⟩, g7, fun k q hk => ⟨(g6 k q hk).1, va_Z.kept (g6 k q hk).2 (fun a _ ha => hq a ha)⟩⟩
  obtain ⟨cell, d1, d2, d3, d4, d5, d6, d7⟩ := g5
  exact ⟨cell, by rw [hq _ d7]; exact d1, d2, d3, d4, d5, d6, d7⟩
section XM
variable {p : Program} {l : Launch} {e : Env} {R : Room} {s : State} {m : MethodId} {args : Array Value} {below : List Frame} {meth : Method} {c : Code} {Q : State → Prop} {w : xv_W} {cl : List vw_C} {rk : Nat → Bool} {aty : List FieldType} {WS : List Jvm.Cond} {stt : List (String × String × String)} {sx : xv_X} {sc : Nat × (Nat → Int32)} {tyf : Nat → Nat → FieldType} {cp cs : Nat → Nat} {yL : Nat} {mt : List xv_M} {cd : Nat → Nat → Option xv_I} {lgs : Nat → List Nat} {mx : Nat → Nat}
/-- a method's walk from any point of it, if the abstract one ends -/
def xv_Sound (l : Launch) (w : xv_W) (cl : List vw_C) (rk : Nat → Bool) (aty : List FieldType) (WS : List Jvm.Cond) (stt : List (String × String × String)) (sx : xv_X) (sc : Nat × (Nat → Int32)) (cp cs : Nat → Nat) (mt : List xv_M) (cd : Nat → Nat → Option xv_I) (lgs : Nat → List Nat) (mx : Nat → Nat) (f : Nat) : Prop :=
  ∀ (y pc : Nat) (L : xv_L) (st : List Value) (h : xv_H) (r : Option Value) (h' : xv_H), xv_exec sc cd cp cs lgs mx f y pc L st h = some (r, h') → (h.1 ≤ h'.1 ∧ h.2.1 ≤ h'.2.1) ∧
    ∀ (M : xv_M), mt[y]? = some M → ∀ (p : Program) (e : Env) (R : Room) (s : State) (m : MethodId) (args : Array Value) (below : List Frame) (meth : Method) (c : Code) (Q : State → Prop) (n0 z0 : Nat),
      xv_Cx p R s m args meth c M.2.1 w cl aty WS stt sx sc M.1.cls M.2.2.1 n0 z0 h'.1 h'.2.1 → (M.1.name = "<init>" → meth.name = "<init>") → M.2.2.2.2.1 ≤ R.frames → M.2.2.2.2.2 ≤ R.locals → xv_K0 w cl aty stt sx sc s → (∀ q, q < w.1 → s.heap[q]? = w.2.2.2.2.2[q]?) →
      (∀ (pc' : Nat) (ic : xv_I) (L' : xv_L) (st' : List Value) (ls : Array Slot) (H : Heap) (locs : List Loc), cd y pc' = some ic → xv_kind ic.1 = 1 → xv_ret ic st' = some r → xv_ls (xv_al w) (lgs y) M.2.2.1 L' ls → xv_R w cl rk h' H → va_S (fun a => w.1 ≤ a) s.heap H locs → W p l e R s m args below meth c H locs (h'.1 - n0) (h'.2.1 - z0) Q (F0 m pc' ls (st'.map (xv_cv (xv_al w))))) →
      xv_G p l e R s m args below meth c Q w cl rk (lgs y) M.2.2.1 n0 z0 (pc, L, st, h)
/-- .. so its contract -/
theorem xv_met {f y : Nat} {M : xv_M} {av : List Value} {h h' : xv_H} {r : Option Value} (hS : xv_Sound l w cl rk aty WS stt sx sc cp cs mt cd lgs mx f) (hTb : xv_Tab yL sx mt cl tyf rk aty cp cs WS stt cd mx) (hwo : w.1 ≤ w.2.2.2.2.2.size) (hM : mt[y]? = some M) (hyL : y ≠ yL) (hx : xv_exec sc cd cp cs lgs mx f y 0 (xv_ent (mx y) av) [] h = some (r, h')) (hfit : xv_fit (lgs y) (mx y) 0 av = true) (hB : h'.1 ≤ xv_SB) :
    Met l M.1 (Jvm.Cond.code M.1 M.2.1 M.2.2.1 M.2.2.2.1 :: WS) (xv_rm M.2.2.2.2 (h'.1 - h.1) (h'.2.1 - h.2.1)) (xv_Pc w cl rk aty stt sx sc h av) (xv_Qc w cl rk r h') (h'.1 - h.1) (h'.2.1 - h.2.1) (fun a => w.1 ≤ a) := by
  obtain ⟨hT, hgood, hMs⟩ := hTb
  obtain ⟨tt, t5, t7⟩ := hMs y M hM
  obtain ⟨t1, t2, t3, t4⟩ := tt hyL
  obtain ⟨⟨m1, m2⟩, hs⟩ := hS y 0 _ _ h r h' hx
  refine Met.ofW (cc := M.2.1) (maxL := M.2.2.1) (ret := M.2.2.2.1) t1 rfl ?_
  intro p e s m args below meth c s₁ B hml hv
  obtain ⟨rfl, hK, hR⟩ := hv
  have hts := atoms_spec (ws := Jvm.Cond.code M.1 M.2.1 M.2.2.1 M.2.2.2.1 :: WS) B.pre
  have hown : s.vm.findClass M.1.cls = some m.cls := findClass_of_methodNamed B.named
  have hlk := B.notSynchronized
  have hmn : meth.name = M.1.name := (name_of_methodNamed B.named B.method).1
  have hC : xv_Cx p (xv_rm M.2.2.2.2 (h'.1 - h.1) (h'.2.1 - h.2.1)) s m (av.map (xv_cv (xv_al w))).toArray meth c M.2.1 w cl aty WS stt sx sc M.1.cls M.2.2.1 h.1 h.2.1 h'.1 h'.2.1 := xv_Cx_of B.exec B.bytes hml hown (fun x hx => hts x (List.mem_cons_of_mem _ hx)) hK hR hwo (by simp only [xv_rm]; omega) (by simp only [xv_rm]; omega) hB
  have hg := hs M hM p e (xv_rm M.2.2.2.2 (h'.1 - h.1) (h'.2.1 - h.2.1)) s m _ below meth c (MQ below (xv_Qc w cl rk r h') (av.map (xv_cv (xv_al w))).toArray s (h'.1 - h.1) (h'.2.1 - h.2.1) (fun a => w.1 ≤ a)) h.1 h.2.1 hC (fun h => hmn.trans h) (Nat.le_refl _) (Nat.le_refl _) hK hR.2.1 ?_
  · rw [lg_entry_eq]
    have := hg _ s.heap [] (by rw [t5]; exact xv_ls_entry (xv_al w) (t5 ▸ hfit)) hR va_S.rf (Nat.le_refl _) (Nat.le_refl _)
    simp only [Nat.sub_self, List.map_nil] at this
    exact this
  · intro pc' ic L' st' ls H locs hcd hk hr hl hR' hS'
    obtain ⟨d1, -, d3⟩ := t7 pc' ic hcd
    obtain ⟨I, q1, q2⟩ := ic
    have hq : ∀ t : State, t.heap = H → s.WarmedH t.vm → xv_Qc w cl rk r h' (av.map (xv_cv (xv_al w))).toArray s (.returned (r.map (xv_cv (xv_al w)))) t := fun t ht _ => ⟨rfl, by rw [ht]; exact hR'⟩
    cases I
    case ireturn =>
      simp only [xv_ret] at hr
      split at hr
      · split at hr
        · rename_i v hc
          cases hr
          rcases hc with hc | ⟨hc, hv | hv⟩
          · exact W.zret B.exec B.bytes (B.returns.trans (d3.1 hc)) rfl hq hS'.2.2 (d1.at rfl) hlk
          · subst hv
            exact W.zret B.exec B.bytes (B.returns.trans (d3.2 hc)) (by decide) hq hS'.2.2 (d1.at rfl) hlk
          · subst hv
            exact W.zret B.exec B.bytes (B.returns.trans (d3.2 hc)) (by decide) hq hS'.2.2 (d1.at rfl) hlk
        · cases hr
      · cases hr
    case lreturn =>
      simp only [xv_ret] at hr
      split at hr
      · cases hr
        exact W.lret B.exec B.bytes (B.returns.trans d3) hq hS'.2.2 (d1.at rfl) hlk
      · cases hr
    case areturn =>
      obtain ⟨rt, e1, e2⟩ := d3
      simp only [xv_ret] at hr
      split at hr
      · cases hr
        exact W.aret B.exec B.bytes (B.returns.trans e1) e2 (Or.inr ⟨_, rfl⟩) hq hS'.2.2 (d1.at rfl) hlk
      · cases hr
        exact W.aret B.exec B.bytes (B.returns.trans e1) e2 (Or.inl rfl) hq hS'.2.2 (d1.at rfl) hlk
      · cases hr
    case return_ =>
      simp only [xv_ret] at hr
      split at hr
      · cases hr
        exact W.vret B.exec B.bytes (B.returns.trans d3) hq hS'.2.2 (d1.at rfl) hlk
      · cases hr
    all_goals cases hr
/-- behind a call -/
theorem xv_after {H : Heap} {locs : List Loc} {cells slots mc ms pc : Nat} {ls : Array Slot} {st0 rest : List Value} {Qa : State → Outcome → State → Prop} (hr : va_Run p l e R s m args below meth c H locs cells slots mc ms (F0 m pc ls st0) rest Qa (fun a => w.1 ≤ a)) (hS : va_S (fun a => w.1 ≤ a) s.heap H locs)
    (kk : ∀ (v : Option Value) (st₀ t : State) (locs1 : List Loc), (∀ q ∈ locs1, w.1 ≤ q.base) → Qa st₀ (.returned v) t → W p l e R s m args below meth c t.heap locs1 (cells + mc) (slots + ms) Q (F0 m (pc + 3) ls (v.toList ++ rest))) : W p l e R s m args below meth c H locs cells slots Q (F0 m pc ls st0) := by
  intro T hT X
  obtain ⟨v, st₀, t, T', L, h0, X', hL, e1, e2, hq, stp⟩ := hr T hT X
  obtain ⟨t2, a1, b1⟩ := kk v st₀ t (locs ++ L) (fun q hq => by
    rcases List.mem_append.mp hq with h | h
    · exact hS.2.2 q h
    · exact hL q h) hq T' e1 X'
  exact ⟨t2, stp t2 a1, b1⟩
end XM
