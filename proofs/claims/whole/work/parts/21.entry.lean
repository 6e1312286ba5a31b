/-! The law's entry: what the Statement gives there is what the abstract machine starts from. -/
def xt_h0 : xv_H := (0, 0, fun _ => 0, fun _ => 0, fun _ _ => none, fun _ _ => none, fun _ _ => 0, fun _ _ => 0, fun _ _ => 0)
abbrev xt_exec (sc : Nat × (Nat → Int32)) : Nat → Nat → Nat → xv_L → List Value → xv_H → Option (Option Value × xv_H) := xv_exec sc xt_cd xt_cp xt_cs xt_lg xt_mx
def xt_st (k : Nat) : Term := match xt_stt[k]? with
  | some q => .static q.1 q.2.1 q.2.2
  | none => .int 0
section XF
variable {p : Program} {l : Launch} {e : Env} {s : State} {m : MethodId} {below : List Frame} {meth : Method} {c : Code} {b L : Nat} {xs : Nat → Int32}
/-- classes -/
theorem xf_classes {args : Array Value} (hts : ∀ w ∈ lw_tbl, w.before args s = true) : ∃ D : va_G, va_K D xt_cl [] s := by
  have hW : ∀ x ∈ xt_WS, x.before args s = true := fun x hx => hts x (List.mem_filter.mp hx).1
  have h : ∀ ci : Nat, ∃ x : ClassId × (Nat → Nat), ∀ q, xt_cl[ci]? = some q → u_Kn s q.1 q.2.1 q.2.2 x.1 x.2 := by
    intro ci
    cases hq : xt_cl[ci]? with
    | none => exact ⟨(0, fun _ => 0), fun q h => by cases h⟩
    | some q =>
      have hi : Jvm.Cond.instantiable q.1 q.2.2 ∈ xt_WS := by
        have hm : q ∈ xt_cl := List.mem_of_getElem? hq
        have hall : ∀ q ∈ xt_cl, Jvm.Cond.instantiable q.1 q.2.2 ∈ lw_tbl := by decide +kernel
        exact List.mem_filter.mpr ⟨hall q hm, rfl⟩
      obtain ⟨cC, iS, hk⟩ := u_known hW (xt_okC.1 ci q hq).1 (hW _ hi)
      exact ⟨(cC, iS), fun q' h' => by cases h'; exact hk⟩
  obtain ⟨f, hf⟩ := Classical.axiomOfChoice h
  exact ⟨(fun i => (f i).1, fun i => (f i).2), fun ci q hq => hf ci q hq, fun k q hk => by cases hk⟩
/-- arrays -/
theorem xf_arrays {args : Array Value} (hts : ∀ w ∈ lw_tbl, w.before args s = true) : ∃ t : Nat → ClassId, ∀ (j : Nat) (ty : FieldType), xt_aty[j]? = some ty → ArrOfT s (t j) ty ∧ va_RA s (t j) ty := by
  have h : ∀ j : Nat, ∃ cA : ClassId, ∀ ty, xt_aty[j]? = some ty → ArrOfT s cA ty ∧ va_RA s cA ty := by
    intro j
    cases hq : xt_aty[j]? with
    | none => exact ⟨0, fun ty h => by cases h⟩
    | some ty =>
      have hm : ty ∈ xt_aty := List.mem_of_getElem? hq
      have hall : ∀ ty ∈ xt_aty, (match ty with | .object C => decide (Jvm.Cond.arrayOver (.object C) ∈ lw_tbl) | t => decide (Jvm.Cond.arrayClass t ∈ lw_tbl)) = true := by decide +kernel
      have h1 := hall ty hm
      cases ty with
      | object C =>
        simp only [decide_eq_true_eq] at h1
        obtain ⟨comp, cA, kA, g1, -, g2, g3, g4⟩ := Cond.arrayOver_spec (hts _ h1)
        exact ⟨cA, fun ty' h' => by cases h'; exact ⟨fun n z => ⟨fun k h => (by cases h), kA, g2, comp, g3⟩, kA, comp, g2, g3, g1, g4⟩⟩
      | _ =>
        simp only [decide_eq_true_eq] at h1
        obtain ⟨cA, kA, comp, g1, g2, g3⟩ := Cond.arrayClass_spec (hts _ h1)
        exact ⟨cA, fun ty' h' => by cases h'; exact ⟨fun n z => ⟨fun k h => (by cases h), kA, g2, comp, g3⟩, g1⟩⟩
  exact Classical.axiomOfChoice h
/-- constants -/
def xt_ex (q : String × String × String) : String := if q.2.2 = "[Ljava/lang/Object;" then "[Ljava/lang/Object;" else q.1
def xt_flat : List Jvm.Cond := flatC (Jvm.Cond.and given_1 narrow_1)
set_option maxRecDepth 100000 in
theorem xf_ex : ∀ q ∈ xt_stt, Jvm.Cond.exactly (.static q.1 q.2.1 q.2.2) (xt_ex q) ∈ xt_flat := by decide +kernel
set_option maxRecDepth 100000 in
theorem xf_lay : ∀ q ∈ xt_stt, Jvm.Cond.laysStatic q.1 q.2.1 q.2.2 ∈ lw_tbl ∧ Jvm.Cond.initialized q.1 ∈ lw_tbl := by decide +kernel
def xt_difs : List (Nat × Nat × Nat) := [(9, 1, 12), (9, 13, 15), (1, 13, 16), (9, 15, 19), (1, 15, 20), (13, 15, 21), (9, 14, 24), (1, 14, 25), (13, 14, 26), (15, 14, 27), (9, 4, 30), (1, 4, 31), (13, 4, 32), (15, 4, 33), (14, 4, 34), (9, 11, 37), (1, 11, 38), (13, 11, 39), (15, 11, 40), (14, 11, 41), (4, 11, 42), (9, 6, 45), (1, 6, 46), (13, 6, 47), (15, 6, 48), (14, 6, 49), (4, 6, 50), (11, 6, 51), (9, 2, 54), (1, 2, 55), (13, 2, 56), (15, 2, 57), (14, 2, 58), (4, 2, 59), (11, 2, 60), (6, 2, 61), (9, 16, 64), (1, 16, 65), (13, 16, 66), (15, 16, 67), (14, 16, 68), (4, 16, 69), (11, 16, 70), (6, 16, 71), (2, 16, 72), (9, 7, 75), (1, 7, 76), (13, 7, 77), (15, 7, 78), (14, 7, 79), (4, 7, 80), (11, 7, 81), (6, 7, 82), (2, 7, 83), (16, 7, 84), (9, 3, 87), (1, 3, 88), (13, 3, 89), (15, 3, 90), (14, 3, 91), (4, 3, 92), (11, 3, 93), (6, 3, 94), (2, 3, 95), (16, 3, 96), (7, 3, 97), (9, 10, 100), (1, 10, 101), (13, 10, 102), (15, 10, 103), (14, 10, 104), (4, 10, 105), (11, 10, 106), (6, 10, 107), (2, 10, 108), (16, 10, 109), (7, 10, 110), (3, 10, 111), (9, 5, 114), (1, 5, 115), (13, 5, 116), (15, 5, 117), (14, 5, 118), (4, 5, 119), (11, 5, 120), (6, 5, 121), (2, 5, 122), (16, 5, 123), (7, 5, 124), (3, 5, 125), (10, 5, 126), (9, 12, 129), (1, 12, 130), (13, 12, 131), (15, 12, 132), (14, 12, 133), (4, 12, 134), (11, 12, 135), (6, 12, 136), (2, 12, 137), (16, 12, 138), (7, 12, 139), (3, 12, 140), (10, 12, 141), (5, 12, 142), (9, 8, 145), (1, 8, 146), (13, 8, 147), (15, 8, 148), (14, 8, 149), (4, 8, 150), (11, 8, 151), (6, 8, 152), (2, 8, 153), (16, 8, 154), (7, 8, 155), (3, 8, 156), (10, 8, 157), (5, 8, 158), (12, 8, 159)]
def xt_dif (x : Nat × Nat × Nat) : Bool := match xt_stt[x.1]?, xt_stt[x.2.1]? with
  | some q, some r => decide (xt_flat[x.2.2]? = some (Jvm.Cond.not (.eq (.static q.1 q.2.1 q.2.2) (.static r.1 r.2.1 r.2.2))))
  | _, _ => false
set_option maxRecDepth 100000 in
theorem xf_difs : xt_difs.all xt_dif = true := by decide +kernel
def xt_hasd (i j : Nat) : Bool := xt_difs.any fun x => (decide (x.1 = i) && decide (x.2.1 = j)) || (decide (x.1 = j) && decide (x.2.1 = i))
set_option maxRecDepth 100000 in
theorem xf_hasd : ∀ i, i < 17 → ∀ j, j < 17 → 1 ≤ i → 1 ≤ j → i ≠ j → xt_hasd i j = true := by decide +kernel
theorem xf_dif : ∀ i, i < 17 → ∀ j, j < 17 → 1 ≤ i → 1 ≤ j → i ≠ j → ∃ x ∈ xt_difs, (x.1 = i ∧ x.2.1 = j) ∨ (x.1 = j ∧ x.2.1 = i) := by
  intro i h1 j h2 h3 h4 h5
  obtain ⟨x, hx, h⟩ := List.any_eq_true.mp (xf_hasd i h1 j h2 h3 h4 h5)
  simp only [Bool.or_eq_true, Bool.and_eq_true, decide_eq_true_eq] at h
  exact ⟨x, hx, h⟩
theorem xf_consts {args : Array Value} (hts : ∀ w ∈ lw_tbl, w.before args s = true) (hg : (Jvm.Cond.and given_1 narrow_1).before args s = true) : ∃ t : Nat → Nat, (∀ (k : Nat) (q : String × String × String), xt_stt[k]? = some q → (Term.static q.1 q.2.1 q.2.2).eval args s none [] s = some (.ref (t k)) ∧ t k < s.heap.size ∧ va_Z q.1 q.2.1 q.2.2 (.ref (t k)) (fun a => s.heap.size ≤ a) s s.heap) ∧ ∀ i j, 1 ≤ i → 1 ≤ j → i < 17 → j < 17 → t i = t j → i = j := by
  have hs := flat_of_before _ hg
  have hA : ∀ a : Nat, a < s.heap.size → ¬ s.heap.size ≤ a := fun a h => by omega
  have h : ∀ k : Nat, ∃ t : Nat, ∀ q, xt_stt[k]? = some q → (Term.static q.1 q.2.1 q.2.2).eval args s none [] s = some (.ref t) ∧ t < s.heap.size ∧ va_Z q.1 q.2.1 q.2.2 (.ref t) (fun a => s.heap.size ≤ a) s s.heap := by
    intro k
    cases hq : xt_stt[k]? with
    | none => exact ⟨0, fun q h => by cases h⟩
    | some q =>
      have hm : q ∈ xt_stt := List.mem_of_getElem? hq
      obtain ⟨a, c, cell, k, q1, q2, q3, -⟩ := Cond.exactly_spec (hs _ (xf_ex q hm))
      obtain ⟨l1, l2⟩ := xf_lay q hm
      exact ⟨a, fun q' h' => by cases h'; exact ⟨q1, (Array.getElem?_eq_some_iff.mp q3).1, va_Zref (hts _ l1) (hts _ l2) q1 hA⟩⟩
  obtain ⟨t, ht⟩ := Classical.axiomOfChoice h
  refine ⟨t, fun k q hq => ht k q hq, fun i j h1 h2 h3 h4 he => ?_⟩
  by_cases hij : i = j
  · exact hij
  · exfalso
    obtain ⟨x, hx, hd⟩ := xf_dif i h3 j h4 h1 h2 hij
    have hx2 := List.all_eq_true.mp xf_difs x hx
    unfold xt_dif at hx2
    split at hx2
    · rename_i q r hq hr
      have hm := List.mem_of_getElem? (of_decide_eq_true hx2)
      rcases hd with ⟨e1, e2⟩ | ⟨e1, e2⟩
      · rw [e1] at hq; rw [e2] at hr
        exact va_neR (hs _ hm) (ht i q hq).1 (ht j r hr).1 he
      · rw [e1] at hq; rw [e2] at hr
        exact va_neR (hs _ hm) (ht j q hq).1 (ht i r hr).1 he.symm
    · cases hx2
set_option maxRecDepth 100000 in
theorem xf_empty : Jvm.Cond.arrayOf (.static "java/util/ArrayList" "DEFAULTCAPACITY_EMPTY_ELEMENTDATA" "[Ljava/lang/Object;") (.object "java/lang/Object") ∈ xt_flat ∧ Jvm.Cond.eq (.length (.static "java/util/ArrayList" "DEFAULTCAPACITY_EMPTY_ELEMENTDATA" "[Ljava/lang/Object;")) (.int 0) ∈ xt_flat ∧ Jvm.Cond.isRef (.mirror "[Ljava/lang/Object;") ∈ xt_flat := by decide +kernel
set_option maxRecDepth 100000 in
theorem xf_sx : (∀ q ∈ xt_sx.1, Jvm.Cond.castable q.1 q.2 ∈ lw_tbl) ∧ (∀ C ∈ xt_sx.2.1, Jvm.Cond.arrayOver (.object C) ∈ lw_tbl) ∧ (∀ q ∈ xt_sx.2.2, Jvm.Cond.methodLinkNest q.1 q.2.1 q.2.2.1 q.2.2.2 ∈ lw_tbl) ∧ Jvm.Cond.declares ⟨"java/lang/Object", "getClass", "()Ljava/lang/Class;"⟩ ∈ lw_tbl := by decide +kernel
/-- the world at the law's entry -/
theorem xf_world (hts : ∀ w ∈ lw_tbl, w.before #[Value.ref b] s = true) (hg : (Jvm.Cond.and given_1 narrow_1).before #[Value.ref b] s = true) (hX : va_X b L xs s s.heap) (hb : b < s.heap.size) :
    ∃ w : xv_W, w.1 = s.heap.size ∧ w.2.2.2.2.2 = s.heap ∧ xv_al w xv_SB = b ∧ xv_K0 w xt_cl xt_aty xt_stt xt_sx (L, xs) s ∧ ∀ a c, xv_cmp a c → xv_al w a = xv_al w c → a = c := by
  obtain ⟨D, hD⟩ := xf_classes hts
  obtain ⟨ta, hta⟩ := xf_arrays hts
  obtain ⟨t, ht, hinj⟩ := xf_consts hts hg
  have hs := flat_of_before _ hg
  have hA : ∀ a : Nat, a < s.heap.size → ¬ s.heap.size ≤ a := fun a h => by omega
  obtain ⟨mi, hmi⟩ := va_Mi.of (hs _ xf_empty.2.2)
  obtain ⟨t0, e0, hT0⟩ := va_Tof (N := 0) (f := fun _ => .null) (A := fun a => s.heap.size ≤ a) (by decide) (hs _ xf_empty.1) (va_eqt (hs _ xf_empty.2.1)) (fun j hj => by omega) hA
  have e1 := (ht 0 _ rfl).1
  have et : t0 = t 0 := by
    have := e0.symm.trans e1
    simpa using this
  subst et
  refine ⟨(s.heap.size, 19, fun k => match k with | 0 => b | 1 => mi | k + 2 => t k, D, ta, s.heap), rfl, rfl, ?_, ⟨⟨hD, hta⟩, ⟨hX, hb, by show 2 < 19; omega, _, hT0⟩, ⟨?_, ?_, ?_, hmi, va_Dc.of (hts _ xf_sx.2.2.2), by show 2 < 19; omega⟩, fun k q hk => ⟨?_, (ht k q hk).2.2⟩⟩, ?_⟩
  · exact xv_al_st (k := 0) (by show 0 < 19; omega)
  · intro q hq
    exact va_any rfl (hts _ (xf_sx.1 q hq))
  · intro C hC
    exact va_AO.of (hts _ (xf_sx.2.1 C hC))
  · intro q hq
    exact va_any rfl (hts _ (xf_sx.2.2.1 q hq))
  · have : k < 17 := (List.getElem?_eq_some_iff.mp hk).1
    show k + 2 < 19
    omega
  · intro a c hc he
    have hlt : ∀ k, k < 17 → t k < s.heap.size := fun k hk => (ht k _ (List.getElem?_eq_getElem hk)).2.1
    have hst : ∀ k, k < 17 → xv_al (s.heap.size, 19, fun k => match k with | 0 => b | 1 => mi | k + 2 => t k, D, ta, s.heap) (xv_SB + (k + 2)) = t k := fun k hk => xv_al_st (k := k + 2) (by show k + 2 < 19; omega)
    have hhp : ∀ k, k < xv_SB ∨ xv_SB + 19 ≤ k → xv_al (s.heap.size, 19, fun k => match k with | 0 => b | 1 => mi | k + 2 => t k, D, ta, s.heap) k = s.heap.size + k := by
      intro k hk
      unfold xv_al
      rw [if_neg]
      show ¬ (xv_SB ≤ k ∧ k < xv_SB + 19)
      omega
    -- a number from xv_SB + 2 on
    have cls : ∀ n, n < xv_SB ∨ xv_SB + 2 ≤ n → (n < xv_SB ∨ xv_SB + 19 ≤ n) ∨ ∃ k, k < 17 ∧ n = xv_SB + (k + 2) := by
      intro n hn
      by_cases h1 : n < xv_SB ∨ xv_SB + 19 ≤ n
      · exact Or.inl h1
      · exact Or.inr ⟨n - xv_SB - 2, by omega, by omega⟩
    rcases hc with hc | ⟨h1, h2⟩ | ⟨h1, h2⟩ | ⟨h1, h2⟩
    · exact hc
    · rw [hhp a (Or.inl h1)] at he
      rcases cls c h2 with h3 | ⟨k, h3, rfl⟩
      · rw [hhp c h3] at he; omega
      · rw [hst k h3] at he; have := hlt k h3; omega
    · rw [hhp c (Or.inl h1)] at he
      rcases cls a h2 with h3 | ⟨k, h3, rfl⟩
      · rw [hhp a h3] at he; omega
      · rw [hst k h3] at he; have := hlt k h3; omega
    · rcases cls a (Or.inr (by omega)) with h3 | ⟨k, h3, e3⟩
      · rw [hhp a h3] at he
        rcases cls c (Or.inr (by omega)) with h4 | ⟨j, h4, rfl⟩
        · rw [hhp c h4] at he; omega
        · rw [hst j h4] at he; have := hlt j h4; omega
      · subst e3
        rw [hst k h3] at he
        rcases cls c (Or.inr (by omega)) with h4 | ⟨j, h4, e4⟩
        · rw [hhp c h4] at he; have := hlt k h3; omega
        · subst e4
          rw [hst j h4] at he
          have := hinj k j (by omega) (by omega) h3 h4 he
          rw [this]
end XF
