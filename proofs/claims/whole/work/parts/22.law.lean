/-! THE CLAIM OUT OF ONE WALK OF THE LAW'S BODY. Your part is whole_start (and what it stands on); all else here is the same for every law, but numbers. -/
def R_law : String := "CellTreeLaw"
def lw_P (b : Addr) (xs : List Int32) (args : Array Value) (s : State) : Prop := args = #[.ref b] ∧ s.IntsAt b xs ∧ xs.length ≤ 2048 ∧ (Jvm.Cond.and given_1 narrow_1).before args s = true
def lw_Q (_ : Array Value) (s : State) (o : Outcome) (t : State) : Prop := o = .returned (some (.int 1)) ∧ Framed s o t [] 600000 7302250
def lw_Z (below : List Frame) (a : Array Value) (s : State) : State → Prop := fun t => ∃ o, t.status = .running ∧ Ended t below o ∧ lw_Q a s o t
/-- the law's own end, with 1 on the stack, nothing written that was there before, its room as the claim has it -/
theorem lw_ret {p : Program} {l : Launch} {e : Env} {s : State} {m : MethodId} {below : List Frame} {meth : Method} {c : Code} {b : Nat} (hx : p.tables.exec = Jvm.exec) (hb : c.code = code) (hr : meth.sig.returnType = ret) (hlocks : meth.locks = false) {pc : Nat} {H : Heap} {ls : Array Slot} (hdg : decode code pc = .ok (.ireturn, 1)) : W p l e room_1 s m #[Value.ref b] below meth c H [] 600000 7302250 (lw_Z below #[Value.ref b] s) (F0 m pc ls [.int 1]) := by
  intro T hT X
  obtain ⟨fs, hret, hrun, hended, hW, hframe⟩ := X.leave (v := some (.int 1)) (hlocks := hlocks) (fun h => by rw [hr] at h; cases h)
  have hmeth' : T.vm.method? m = some meth := X.method'
  refine ⟨T.setFrames fs, ?_, .returned (some (.int 1)), hrun, hended, rfl, ⟨_, rfl⟩, hW, hframe⟩
  jvm_step X.here [X.here.top, hx, hb, hdg, hmeth', hr, ret, narrow_b1]
  (try refine ⟨rfl, ?_⟩); (try refine ⟨rfl, ?_⟩)
  first | (intro acts; rw [hret _ acts rfl rfl rfl]) | rw [hret _ _ rfl rfl rfl]
  exact Steps.refl _
/-- what holds at the law's entry: the machine, the code, the tables' words (any of lw_tbl by 'hts w (by decide +kernel)'), the script of L ints xs at the cell b, what the Statement gives of the start (any of its parts by flat_of_before) -/
def lw_At (p : Program) (s : State) (m : MethodId) (meth : Method) (c : Code) (b L : Nat) (xs : Nat → Int32) : Prop :=
  p.tables.exec = Jvm.exec ∧ c.code = code ∧ meth.sig.returnType = ret ∧ c.maxLocals = 4 ∧ s.vm.findClass R_law = some m.cls ∧ (∀ w ∈ lw_tbl, w.before #[Value.ref b] s = true) ∧ va_X b L xs s s.heap ∧ b < s.heap.size ∧ meth.locks = false ∧ (Jvm.Cond.and given_1 narrow_1).before #[Value.ref b] s = true
/-- the law's walk, if the abstract machine runs it to its end with 1, in the room that there is -/
theorem xt_walk {p : Program} {e : Env} {s : State} {m : MethodId} {below : List Frame} {meth : Method} {c : Code} (l : Launch) {b L : Nat} {xs : Nat → Int32} (C0 : lw_At p s m meth c b L xs) {f : Nat} {h' : xv_H} (hx : xt_exec (L, xs) f xt_yL 0 (xv_ent 4 [.ref xv_SB]) [] xt_h0 = some (some (.int 1), h')) (hc : h'.1 ≤ 600000) (hz : h'.2.1 ≤ 7302250) : W p l e room_1 s m #[Value.ref b] below meth c s.heap [] 0 0 (lw_Z below #[Value.ref b] s) (entryFrame m ([Value.ref b] : List Value).toArray 4) := by
  obtain ⟨hex, hcd, hret, hml, hown, hts, hX, hb, hlk, hg⟩ := C0
  obtain ⟨w, w1, w2, w3, hK, hI⟩ := xf_world hts hg hX hb
  have hwo : w.1 ≤ w.2.2.2.2.2.size := by rw [w1, w2]; exact Nat.le_refl _
  obtain ⟨-, hs⟩ := xv_sound (l := l) (sc := (L, xs)) (lgs := xt_lg) xt_tab hwo hI f _ _ _ _ _ _ _ hx
  have hR : xv_R w xt_cl xt_rk xt_h0 s.heap := ⟨by rw [w1]; rfl, fun q hq => by rw [w2], fun a ha => absurd ha (Nat.not_lt_zero a)⟩
  have hC : xv_Cx p room_1 s m #[Value.ref b] meth c code w xt_cl xt_aty xt_WS xt_stt xt_sx (L, xs) "CellTreeLaw" 4 0 0 h'.1 h'.2.1 := xv_Cx_of hex hcd hml hown (fun x hx => hts x (List.mem_filter.mp hx).1) hK hR hwo (by show h'.1 ≤ 600000 + 0; omega) (by show h'.2.1 ≤ 7302250 + 0; omega) (by unfold xv_SB; omega)
  have hM : xt_mt[xt_yL]? = some xt_M188 := rfl
  have hG := hs xt_M188 hM p e room_1 s m #[Value.ref b] below meth c (lw_Z below #[Value.ref b] s) 0 0 hC (fun h => absurd h (by decide)) (by decide) (by decide) hK hR.2.1 ?_
  · rw [lg_entry_eq]
    have hl := xv_ls_entry (xv_al w) (lg := xt_lg xt_yL) (n := 4) (av := [.ref xv_SB]) (by decide +kernel)
    have e1 : [Value.ref xv_SB].map (xv_cv (xv_al w)) = [Value.ref b] := by simp [xv_cv, w3]
    rw [e1] at hl
    exact hG _ s.heap [] hl hR va_S.rf (Nat.le_refl _) (Nat.le_refl _)
  · intro pc' ic L' st' ls H locs hcd' hk hr hl hR' hS'
    obtain ⟨d1, -, d3⟩ := (xt_tab.2.2 _ _ hM).2.2 pc' ic hcd'
    obtain ⟨I, q1, q2⟩ := ic
    cases I
    case ireturn =>
      simp only [xv_ret] at hr
      split at hr
      · split at hr
        · cases hr
          refine va_forget (fun q hq => by have := hS'.2.2 q hq; rw [w1] at this; exact this) ?_
          exact W.widen (by show h'.1 - 0 ≤ 600000; omega) (by show h'.2.1 - 0 ≤ 7302250; omega) (lw_ret hex hcd hret hlk (d1.at rfl))
        · cases hr
      · cases hr
    case lreturn =>
      simp only [xv_ret] at hr
      split at hr <;> cases hr
    case areturn =>
      simp only [xv_ret] at hr
      split at hr <;> cases hr
    case return_ =>
      simp only [xv_ret] at hr
      split at hr <;> cases hr
    all_goals cases hr
