/-! The law's start. -/
/-- the run of the law's program -/
theorem xp_prog (L : Nat) (xs : Nat → Int32) (hL : L ≤ 2048) : ∃ (F : Nat) (h' : xv_H), m188 (L, xs) F xt_h0 = some (1, h') ∧ h'.1 ≤ 600000 ∧ h'.2.1 ≤ 7302250 := by
  obtain ⟨r, h', e, e1, h1, h2⟩ := law_run xs hL
  rw [e1] at e
  have e0 : xt_h0 = hZ := rfl
  rw [e0]
  exact ⟨2000, h', e, h1, h2⟩
theorem xp_pure (L : Nat) (xs : Nat → Int32) (hL : L ≤ 2048) : ∃ (f : Nat) (h' : xv_H), xt_exec (L, xs) f xt_yL 0 (xv_ent 4 [.ref xv_SB]) [] xt_h0 = some (some (.int 1), h') ∧ h'.1 ≤ 600000 ∧ h'.2.1 ≤ 7302250 := by
  obtain ⟨F, h', e, h1, h2⟩ := xp_prog L xs hL
  obtain ⟨f, r, g, e2, hr, hg⟩ := t188 (sc := (L, xs)) e
  subst hr hg
  exact ⟨f, g, e2, h1, h2⟩
/-- YOUR PART: from the entry, for every script of at most 2048 ints, the law comes to its end with true -/
theorem whole_start {p : Program} {e : Env} {s : State} {m : MethodId} {below : List Frame} {meth : Method} {c : Code} (l : Launch) {b L : Nat} {xs : Nat → Int32} (hL : L ≤ 2048) (C0 : lw_At p s m meth c b L xs) : W p l e room_1 s m #[Value.ref b] below meth c s.heap [] 0 0 (lw_Z below #[Value.ref b] s) (entryFrame m ([Value.ref b] : List Value).toArray 4) := by
  obtain ⟨f, h', e, h1, h2⟩ := xp_pure L xs hL
  exact xt_walk l C0 e h1 h2
