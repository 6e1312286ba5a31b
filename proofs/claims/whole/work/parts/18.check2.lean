/-! The check of calls and returns; of a method; of all. -/
def xt_npar (d : String) (q : Nat) : Bool := decide ((parseMethodDescriptor d).map (fun d => d.parameters.length) = some q)
def xt_chkJ (M : xv_M) (ic : xv_I) (v : List Nat) : Bool := match ic.1 with
  | .ireturn => (decide (ic.2.2 = 0) && decide (M.2.2.2.1 = some .int)) || (decide (ic.2.2 = 2) && decide (M.2.2.2.1 = some .boolean))
  | .lreturn => decide (M.2.2.2.1 = some .long)
  | .areturn => (match M.2.2.2.1 with
    | some t => xt_isR t
    | none => false)
  | .return_ => decide (M.2.2.2.1 = none)
  | .invokestatic i => if ic.2.1 = 1000 then decide (1 ≤ M.2.2.2.2.1) && decide (26 ≤ M.2.2.2.2.2) && (match v with
        | [p1, p2, p3, p4] => xt_is p1 (.methodLink M.1.cls i arraycopyName) && xt_is p2 (.native arraycopyName) && xt_is p3 (.static arraycopyName) && xt_is p4 (.initialized "java/lang/System")
        | _ => false) && (decide (ic.2.2 < 104) || (match xt_obj ic.2.2 with
        | some C => xt_cast ic.2.2 C
        | none => false))
      else if ic.2.1 = 1004 then decide (1 ≤ M.2.2.2.2.1) && decide (26 ≤ M.2.2.2.2.2) && (match v with
        | [p1, p2, p3, p4] => xt_is p1 (.methodLink M.1.cls i Lib.Math.min.name) && xt_is p2 (.static Lib.Math.min.name) && xt_is p3 (.initialized "java/lang/Math") && xt_is p4 (.code Lib.Math.min.name Lib.Math.min.code 2 (some .int))
        | _ => false)
      else if ic.2.1 = 1005 then decide (1 ≤ M.2.2.2.2.1) && decide (26 ≤ M.2.2.2.2.2) && (match v with
        | [p1, p2, p3, p4] => xt_is p1 (.methodLink M.1.cls i Lib.Math.max.name) && xt_is p2 (.static Lib.Math.max.name) && xt_is p3 (.initialized "java/lang/Math") && xt_is p4 (.code Lib.Math.max.name Lib.Math.max.code 2 (some .int))
        | _ => false)
      else decide (ic.2.1 ≠ xt_yL) && (match xt_mt[ic.2.1]? with
        | some M' => decide (M'.2.2.2.2.1 < M.2.2.2.2.1) && decide (19 + M'.2.2.1 + M'.2.2.2.2.2 ≤ M.2.2.2.2.2) && xt_npar M'.1.desc ic.2.2 && (match v with
          | [p1, p2] => xt_is p1 (.methodLink M.1.cls i M'.1) && xt_is p2 (.static M'.1)
          | _ => false)
        | none => false)
  | .invokespecial i => if ic.2.1 = 1001 then decide (1 ≤ M.2.2.2.2.1) && decide (26 ≤ M.2.2.2.2.2) && (match v with
        | [p1, p2, p3] => xt_is p1 (.methodLink M.1.cls i Lib.objectInit) && xt_is p2 (.instanceMethod Lib.objectInit) && xt_is p3 (.code Lib.objectInit ⟨#[0xb1]⟩ 1 none)
        | _ => false)
      else decide (ic.2.1 ≠ xt_yL) && (match xt_mt[ic.2.1]? with
        | some M' => decide (M'.2.2.2.2.1 < M.2.2.2.2.1) && decide (19 + M'.2.2.1 + M'.2.2.2.2.2 ≤ M.2.2.2.2.2) && decide (M'.2.2.2.1 = none) && decide (M'.1.name = "<init>") && xt_npar M'.1.desc ic.2.2 && (match v with
          | [p1, p2] => (xt_is p1 (.methodLink M.1.cls i M'.1) || decide ((M.1.cls, i, M'.1, "CellTree") ∈ xt_sx.2.2)) && xt_is p2 (.instanceMethod M'.1)
          | _ => false)
        | none => false)
  | .invokevirtual i => if ic.2.1 = 1002 then decide (1 ≤ M.2.2.2.2.1) && decide (26 ≤ M.2.2.2.2.2) && decide (("[I", "java/lang/Cloneable") ∈ xt_sx.1) && (match v with
        | [p1, p2, p3, p4, p5] => xt_is p1 (.methodLink M.1.cls i ⟨"[I", "clone", "()Ljava/lang/Object;"⟩) && xt_is p2 (.sameMethod "[I" "java/lang/Object" "clone" "()Ljava/lang/Object;") && xt_is p3 (.native ⟨"java/lang/Object", "clone", "()Ljava/lang/Object;"⟩) && xt_is p4 (.instanceMethod ⟨"java/lang/Object", "clone", "()Ljava/lang/Object;"⟩) && xt_is p5 (.selects "[I" ⟨"[I", "clone", "()Ljava/lang/Object;"⟩ ⟨"java/lang/Object", "clone", "()Ljava/lang/Object;"⟩)
        | _ => false)
      else if ic.2.1 = 1003 then decide (1 ≤ M.2.2.2.2.1) && decide (26 ≤ M.2.2.2.2.2) && decide (xt_obj ic.2.2 = some "java/lang/Object") && (match v with
        | [p1, p2, p3, p4] => xt_is p1 (.methodLink M.1.cls i ⟨"java/lang/Object", "getClass", "()Ljava/lang/Class;"⟩) && xt_is p2 (.selects "[Ljava/lang/Object;" ⟨"java/lang/Object", "getClass", "()Ljava/lang/Class;"⟩ ⟨"java/lang/Object", "getClass", "()Ljava/lang/Class;"⟩) && xt_is p3 (.instanceMethod ⟨"java/lang/Object", "getClass", "()Ljava/lang/Class;"⟩) && xt_is p4 (.native ⟨"java/lang/Object", "getClass", "()Ljava/lang/Class;"⟩)
        | _ => false)
      else decide (ic.2.1 ≠ xt_yL) && (match xt_mt[ic.2.1]?, xt_cl[xt_cs ic.2.1]? with
        | some M', some c => decide (M'.2.2.2.2.1 < M.2.2.2.2.1) && decide (19 + M'.2.2.1 + M'.2.2.2.2.2 ≤ M.2.2.2.2.2) && decide (xt_cs ic.2.1 < 100) && decide (c.1 = M'.1.cls) && xt_npar M'.1.desc ic.2.2 && (match v with
          | [p1, p2, p3] => xt_is p1 (.methodLink M.1.cls i M'.1) && xt_is p2 (.instanceMethod M'.1) && xt_is p3 (.selects M'.1.cls M'.1 M'.1)
          | _ => false)
        | _, _ => false)
  | _ => true
theorem xt_chkJ_spec {M : xv_M} {ic : xv_I} {v : List Nat} (h : xt_chkJ M ic v = true) : xv_okJ xt_yL xt_sx xt_mt xt_cl xt_aty xt_cp xt_cs xt_WS M ic := by
  obtain ⟨I, r, q⟩ := ic
  cases I
  case ireturn =>
    simp only [xt_chkJ, Bool.or_eq_true, Bool.and_eq_true, decide_eq_true_eq] at h
    refine ⟨fun hq => ?_, fun hq => ?_⟩ <;> simp only at hq <;> rcases h with h | h <;> first | exact h.2 | omega
  case lreturn => exact of_decide_eq_true (p := M.2.2.2.1 = some .long) h
  case areturn =>
    simp only [xt_chkJ] at h
    split at h
    · rename_i t ht
      exact ⟨t, ht, xt_isR_spec h⟩
    · cases h
  case return_ => exact of_decide_eq_true (p := M.2.2.2.1 = none) h
  case invokestatic i =>
    simp only [xt_chkJ] at h
    simp only [xv_okJ]
    split at h
    · rename_i hr
      rw [if_pos hr]
      simp only [Bool.and_eq_true, Bool.or_eq_true, decide_eq_true_eq] at h
      obtain ⟨⟨⟨h1, h2⟩, h3⟩, h4⟩ := h
      split at h3
      · simp only [Bool.and_eq_true] at h3
        refine ⟨h1, h2, xt_got h3.1.1.1 rfl, xt_got h3.1.1.2 rfl, xt_got h3.1.2 rfl, xt_got h3.2 rfl, fun hq => ?_⟩
        rcases h4 with h4 | h4
        · omega
        · split at h4
          · rename_i C hC
            obtain ⟨j, e1, e2, e3⟩ := xt_obj_spec hC
            unfold xt_cast at h4
            split at h4
            · cases h4
            · rename_i c hc
              simp only [Bool.and_eq_true, Bool.or_eq_true, decide_eq_true_eq] at h4
              exact ⟨j, C, c, e1, e3, hc, h4.1, h4.2⟩
          · cases h4
      · cases h3
    · rename_i hr
      rw [if_neg hr]
      split at h
      · rename_i hr2
        rw [if_pos hr2]
        simp only [Bool.and_eq_true, decide_eq_true_eq] at h
        obtain ⟨⟨h1, h2⟩, h3⟩ := h
        split at h3
        · simp only [Bool.and_eq_true] at h3
          exact ⟨h1, h2, xt_got h3.1.1.1 rfl, xt_got h3.1.1.2 rfl, xt_got h3.1.2 rfl, xt_got h3.2 rfl⟩
        · cases h3
      · rename_i hr2
        rw [if_neg hr2]
        split at h
        · rename_i hr3
          rw [if_pos hr3]
          simp only [Bool.and_eq_true, decide_eq_true_eq] at h
          obtain ⟨⟨h1, h2⟩, h3⟩ := h
          split at h3
          · simp only [Bool.and_eq_true] at h3
            exact ⟨h1, h2, xt_got h3.1.1.1 rfl, xt_got h3.1.1.2 rfl, xt_got h3.1.2 rfl, xt_got h3.2 rfl⟩
          · cases h3
        · rename_i hr3
          rw [if_neg hr3]
          simp only [Bool.and_eq_true, decide_eq_true_eq] at h
          obtain ⟨h0, h⟩ := h
          split at h
          · rename_i M' hM
            simp only [Bool.and_eq_true, decide_eq_true_eq] at h
            obtain ⟨⟨⟨h1, h2⟩, h3⟩, h4⟩ := h
            split at h4
            · simp only [Bool.and_eq_true] at h4
              exact ⟨h0, M', hM, h1, h2, xt_got h4.1 rfl, xt_got h4.2 rfl, of_decide_eq_true h3⟩
            · cases h4
          · cases h
  case invokespecial i =>
    simp only [xt_chkJ] at h
    simp only [xv_okJ]
    split at h
    · rename_i hr
      rw [if_pos hr]
      simp only [Bool.and_eq_true, decide_eq_true_eq] at h
      obtain ⟨⟨h1, h2⟩, h3⟩ := h
      split at h3
      · simp only [Bool.and_eq_true] at h3
        exact ⟨h1, h2, xt_got h3.1.1 rfl, xt_got h3.1.2 rfl, xt_got h3.2 rfl⟩
      · cases h3
    · rename_i hr
      rw [if_neg hr]
      simp only [Bool.and_eq_true, decide_eq_true_eq] at h
      obtain ⟨h0, h⟩ := h
      split at h
      · rename_i M' hM
        simp only [Bool.and_eq_true, decide_eq_true_eq] at h
        obtain ⟨⟨⟨⟨⟨h1, h2⟩, h3⟩, h4⟩, h5⟩, h6⟩ := h
        split at h6
        · simp only [Bool.and_eq_true, Bool.or_eq_true, decide_eq_true_eq] at h6
          refine ⟨h0, M', hM, h1, h2, h3, h4, ?_, xt_got h6.2 rfl, of_decide_eq_true h5⟩
          rcases h6.1 with h7 | h7
          · exact Or.inl (xt_got h7 rfl)
          · exact Or.inr ⟨_, h7⟩
        · cases h6
      · cases h
  case invokevirtual i =>
    simp only [xt_chkJ] at h
    simp only [xv_okJ]
    split at h
    · rename_i hr
      rw [if_pos hr]
      simp only [Bool.and_eq_true, decide_eq_true_eq] at h
      obtain ⟨⟨⟨h1, h2⟩, h4⟩, h3⟩ := h
      split at h3
      · simp only [Bool.and_eq_true] at h3
        exact ⟨h1, h2, xt_got h3.1.1.1.1 rfl, xt_got h3.1.1.1.2 rfl, xt_got h3.1.1.2 rfl, xt_got h3.1.2 rfl, xt_got h3.2 rfl, h4⟩
      · cases h3
    · rename_i hr
      rw [if_neg hr]
      split at h
      · rename_i hr2
        rw [if_pos hr2]
        simp only [Bool.and_eq_true, decide_eq_true_eq] at h
        obtain ⟨⟨⟨h1, h2⟩, h4⟩, h3⟩ := h
        obtain ⟨j, e1, e2, e3⟩ := xt_obj_spec h4
        split at h3
        · simp only [Bool.and_eq_true] at h3
          exact ⟨h1, h2, ⟨j, e1, e3⟩, xt_got h3.1.1.1 rfl, xt_got h3.1.1.2 rfl, xt_got h3.1.2 rfl, xt_got h3.2 rfl⟩
        · cases h3
      · rename_i hr2
        rw [if_neg hr2]
        simp only [Bool.and_eq_true, decide_eq_true_eq] at h
        obtain ⟨h0, h⟩ := h
        split at h
        · rename_i M' c hM hc
          simp only [Bool.and_eq_true, decide_eq_true_eq] at h
          obtain ⟨⟨⟨⟨⟨h1, h2⟩, h3⟩, h4⟩, h5⟩, h6⟩ := h
          split at h6
          · simp only [Bool.and_eq_true] at h6
            exact ⟨h0, M', c, hM, h1, h2, hc, h3, h4, xt_got h6.1.1 rfl, xt_got h6.1.2 rfl, xt_got h6.2 rfl, of_decide_eq_true h5⟩
          · cases h6
        · cases h
  all_goals trivial
def xt_dec (cc : ByteArray) (pc : Nat) (i : ClassFile.Instr) : Bool := match decode cc pc with
  | .ok x => decide (x.1 = i) && (decide (xv_il i = 0) || decide (x.2 = xv_il i))
  | .error _ => false
theorem xt_dec_spec {cc : ByteArray} {pc : Nat} {i : ClassFile.Instr} (h : xt_dec cc pc i = true) : xv_dec cc pc i := by
  unfold xt_dec at h
  split at h
  · rename_i x hx
    obtain ⟨a, b⟩ := x
    simp only [Bool.and_eq_true, Bool.or_eq_true, decide_eq_true_eq] at h
    obtain ⟨h1, h2⟩ := h
    subst h1
    exact ⟨b, hx, h2⟩
  · cases h
def xt_chk (M : xv_M) (e : (Nat × xv_I) × List Nat) : Bool := xt_dec M.2.1 e.1.1 e.1.2.1 && xt_chkI M.1 e.1.1 e.1.2 e.2 && xt_chkJ M e.1.2 e.2
/-- the whole code of a method -/
def xt_all (M : xv_M) : List (List (Nat × xv_I)) → List (List (List Nat)) → Bool
  | [], [] => true
  | c :: cs, v :: vs => decide (c.length = v.length) && (c.zip v).all (xt_chk M) && xt_all M cs vs
  | _, _ => false
theorem xt_lk_mem : ∀ {l : List (Nat × xv_I)} {n : Nat} {i : xv_I}, xt_lk l n = some i → (n, i) ∈ l
  | [], n, i, h => by cases h
  | (k, j) :: t, n, i, h => by
    simp only [xt_lk] at h
    split at h
    · rename_i hb
      cases h
      rw [Nat.eq_of_beq_eq_true hb]
      exact List.mem_cons_self
    · exact List.mem_cons_of_mem _ (xt_lk_mem h)
theorem xt_all_spec {M : xv_M} : ∀ {cs : List (List (Nat × xv_I))} {vs : List (List (List Nat))}, xt_all M cs vs = true → ∀ c ∈ cs, ∀ e ∈ c, ∃ v, xt_chk M (e, v) = true
  | [], [], _, c, hc => by cases hc
  | c :: cs, v :: vs, h, d, hd => by
    simp only [xt_all, Bool.and_eq_true, decide_eq_true_eq, List.all_eq_true] at h
    obtain ⟨⟨h1, h2⟩, h3⟩ := h
    intro e he
    rcases List.mem_cons.mp hd with rfl | hd
    · obtain ⟨i, hi⟩ := List.getElem?_of_mem he
      have hl : i < d.length := (List.getElem?_eq_some_iff.mp hi).1
      have hv : ∃ w, v[i]? = some w := ⟨_, List.getElem?_eq_getElem (by omega)⟩
      obtain ⟨w, hw⟩ := hv
      refine ⟨w, h2 (e, w) (List.mem_of_getElem? (i := i) ?_)⟩
      rw [List.getElem?_zip_eq_some]
      exact ⟨hi, hw⟩
    · exact xt_all_spec h3 d hd e he
  | [], _ :: _, h, _, _ => by cases h
  | _ :: _, [], h, _, _ => by cases h
/-- what is asked of method y -/
def xt_P (y : Nat) (M : xv_M) : Prop := (y ≠ xt_yL → plainName M.1.cls = true ∧ (M.1.cls ≠ "java/lang/invoke/MethodHandle" ∧ M.1.cls ≠ "java/lang/invoke/VarHandle") ∧ Jvm.Cond.code M.1 M.2.1 M.2.2.1 M.2.2.2.1 ∈ xt_WS ∧ Jvm.Cond.initialized M.1.cls ∈ xt_WS) ∧ xt_mx y = M.2.2.1 ∧
    ∀ (pc : Nat) (ic : xv_I), xt_cd y pc = some ic → xv_dec M.2.1 pc ic.1 ∧ xv_okI xt_sx xt_cl xt_tyf xt_rk xt_aty xt_cp xt_WS xt_stt M.1 pc ic ∧ xv_okJ xt_yL xt_sx xt_mt xt_cl xt_aty xt_cp xt_cs xt_WS M ic
theorem xt_code {y : Nat} {M : xv_M} {cs : List (List (Nat × xv_I))} {vs : List (List (List Nat))} (hy : xt_2 [] xt_cds y = cs) (h : xt_all M cs vs = true) : ∀ (pc : Nat) (ic : xv_I), xt_cd y pc = some ic → xv_dec M.2.1 pc ic.1 ∧ xv_okI xt_sx xt_cl xt_tyf xt_rk xt_aty xt_cp xt_WS xt_stt M.1 pc ic ∧ xv_okJ xt_yL xt_sx xt_mt xt_cl xt_aty xt_cp xt_cs xt_WS M ic := by
  intro pc ic hc
  unfold xt_cd at hc
  rw [hy] at hc
  split at hc
  · rename_i l hl
    obtain ⟨v, hv⟩ := xt_all_spec h l (List.mem_of_getElem? hl) _ (xt_lk_mem hc)
    simp only [xt_chk, Bool.and_eq_true] at hv
    exact ⟨xt_dec_spec hv.1.1, xt_chkI_spec hv.1.2, xt_chkJ_spec hv.2⟩
  · cases hc
def xt_hd (M : xv_M) (p : Nat) : Bool := plainName M.1.cls && decide (M.1.cls ≠ "java/lang/invoke/MethodHandle" ∧ M.1.cls ≠ "java/lang/invoke/VarHandle") && xt_is p (.initialized M.1.cls)
theorem xt_mk {y : Nat} {M : xv_M} {cs : List (List (Nat × xv_I))} {vs : List (List (List Nat))} {p p2 : Nat} (h1 : xt_hd M p = true) (h2 : xt_w p2 = some (.code M.1 M.2.1 M.2.2.1 M.2.2.2.1)) (h3 : xt_mx y = M.2.2.1) (hy : xt_2 [] xt_cds y = cs) (h : xt_all M cs vs = true) : xt_P y M := by
  simp only [xt_hd, Bool.and_eq_true, decide_eq_true_eq] at h1
  exact ⟨fun _ => ⟨h1.1.1, h1.1.2, xt_mem h2 rfl, xt_got h1.2 rfl⟩, h3, xt_code hy h⟩
def xt_each (P : Nat → xv_M → Prop) : Nat → List xv_M → Prop
  | _, [] => True
  | i, m :: t => P i m ∧ xt_each P (i + 1) t
theorem xt_each_spec {P : Nat → xv_M → Prop} : ∀ {l : List xv_M} {i : Nat}, xt_each P i l → ∀ (y : Nat) (M : xv_M), l[y]? = some M → P (i + y) M
  | [], i, _, y, M, hy => by simp at hy
  | m :: t, i, h, 0, M, hy => by
    simp at hy
    subst hy
    exact h.1
  | m :: t, i, h, y + 1, M, hy => by
    have := xt_each_spec h.2 y M (by simpa using hy)
    rw [show i + (y + 1) = i + 1 + y by omega]
    exact this
